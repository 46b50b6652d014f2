section
variable {p : Program} {l : Launch} {e : Env} {s : State} {m : MethodId} {args : Array Value} {below : List Frame} {meth : Method} {c : Code} {E : Ev}
def bb_X9_needLetter_0_0 (x1 : Int32) (M : Mm) : Option Unit := if x1 < 0 then (none) else (if x1 < (M.1 11 7) then (some ()) else (none))
set_option maxHeartbeats 4000000 in
set_option maxRecDepth 100000 in
theorem gb_X9_needLetter_0_0  {x1 : Int32} {M : Mm}  (hE : Has shC (eH E)) (C : Cx RX9 cX9_needLetter 2 p (rmD 1) s m args meth c E) (hr : meth.sig.returnType = none) (h : bb_X9_needLetter_0_0 x1 M = some ()) : G p l e (rmD 1) s m args below meth c E 2 0 0 (QR below args s E 0 0 none M) 0 [(0, .ref (eA E 0)), (1, .int x1)] [] M := by
  unfold bb_X9_needLetter_0_0 at h
  refine G.iload_n C 1 dX9_needLetter_0 rfl rfl ?_
  refine G.if_lt (tgt := 15) C dX9_needLetter_1 (by decide) (fun hc => ?_) (fun hc => ?_)
  · have h := it_t h hc
    cases h
  · have h := it_f h hc
    refine G.iload_n C 1 dX9_needLetter_4 rfl rfl ?_
    refine G.aload_n C 0 dX9_needLetter_5 rfl rfl ?_
    refine G.getR (k := 1) C k_X9 (sc_0 hE) rfl (by decide) tg_480 dX9_needLetter_6 ?_
    refine G.getIN (k := 7) C k_X7 (sc_11 hE) rfl (by decide) tw_159 dX9_needLetter_9 ?_
    refine G.icmp_lt (tgt := 26) C dX9_needLetter_12 (by decide) (fun hc => ?_) (fun hc => ?_)
    · have h := it_t h hc
      cases h
      exact G.vret C hr dX9_needLetter_26
    · have h := it_f h hc
      cases h
def f_X9_needLetter_0 (x1 : Int32) (M : Mm) : Option Unit := bb_X9_needLetter_0_0 x1 M
theorem s_X9_needLetter_0 {l : Launch} {E : Ev} {x1 : Int32} {M : Mm}  (hE : Has shC (eH E)) (h : f_X9_needLetter_0 x1 M = some ()) : MetA l yX9_needLetter cX9_needLetter 2 none 1 E [.ref (eA E 0), .int x1] M none M := by
  refine MetA.of (by decide +kernel) (Nat.le_of_ble_eq_true rfl) ?_
  intro p e s m below meth c C hr hnm
  exact G.sub [0, 1] rfl (gb_X9_needLetter_0_0 hE C hr  h)
def bb_X9_needHollow_0_0 (x1 : Int32) (M : Mm) : Option Unit := if x1 < 0 then (none) else (if x1 < (M.1 11 9) then (some ()) else (none))
set_option maxHeartbeats 4000000 in
set_option maxRecDepth 100000 in
theorem gb_X9_needHollow_0_0  {x1 : Int32} {M : Mm}  (hE : Has shC (eH E)) (C : Cx RX9 cX9_needHollow 2 p (rmD 1) s m args meth c E) (hr : meth.sig.returnType = none) (h : bb_X9_needHollow_0_0 x1 M = some ()) : G p l e (rmD 1) s m args below meth c E 2 0 0 (QR below args s E 0 0 none M) 0 [(0, .ref (eA E 0)), (1, .int x1)] [] M := by
  unfold bb_X9_needHollow_0_0 at h
  refine G.iload_n C 1 dX9_needHollow_0 rfl rfl ?_
  refine G.if_lt (tgt := 15) C dX9_needHollow_1 (by decide) (fun hc => ?_) (fun hc => ?_)
  · have h := it_t h hc
    cases h
  · have h := it_f h hc
    refine G.iload_n C 1 dX9_needHollow_4 rfl rfl ?_
    refine G.aload_n C 0 dX9_needHollow_5 rfl rfl ?_
    refine G.getR (k := 1) C k_X9 (sc_0 hE) rfl (by decide) tg_480 dX9_needHollow_6 ?_
    refine G.getIN (k := 9) C k_X7 (sc_11 hE) rfl (by decide) tw_169 dX9_needHollow_9 ?_
    refine G.icmp_lt (tgt := 26) C dX9_needHollow_12 (by decide) (fun hc => ?_) (fun hc => ?_)
    · have h := it_t h hc
      cases h
      exact G.vret C hr dX9_needHollow_26
    · have h := it_f h hc
      cases h
def f_X9_needHollow_0 (x1 : Int32) (M : Mm) : Option Unit := bb_X9_needHollow_0_0 x1 M
theorem s_X9_needHollow_0 {l : Launch} {E : Ev} {x1 : Int32} {M : Mm}  (hE : Has shC (eH E)) (h : f_X9_needHollow_0 x1 M = some ()) : MetA l yX9_needHollow cX9_needHollow 2 none 1 E [.ref (eA E 0), .int x1] M none M := by
  refine MetA.of (by decide +kernel) (Nat.le_of_ble_eq_true rfl) ?_
  intro p e s m below meth c C hr hnm
  exact G.sub [0, 1] rfl (gb_X9_needHollow_0_0 hE C hr  h)
def bb_X9_needPrint_0_0 (x1 : Int32) (M : Mm) : Option Unit := if x1 < 0 then (none) else (if x1 < (M.1 50 7) then (some ()) else (none))
set_option maxHeartbeats 4000000 in
set_option maxRecDepth 100000 in
theorem gb_X9_needPrint_0_0  {x1 : Int32} {M : Mm}  (hE : Has shC (eH E)) (C : Cx RX9 cX9_needPrint 2 p (rmD 1) s m args meth c E) (hr : meth.sig.returnType = none) (h : bb_X9_needPrint_0_0 x1 M = some ()) : G p l e (rmD 1) s m args below meth c E 2 0 0 (QR below args s E 0 0 none M) 0 [(0, .ref (eA E 0)), (1, .int x1)] [] M := by
  unfold bb_X9_needPrint_0_0 at h
  refine G.iload_n C 1 dX9_needPrint_0 rfl rfl ?_
  refine G.if_lt (tgt := 15) C dX9_needPrint_1 (by decide) (fun hc => ?_) (fun hc => ?_)
  · have h := it_t h hc
    cases h
  · have h := it_f h hc
    refine G.iload_n C 1 dX9_needPrint_4 rfl rfl ?_
    refine G.aload_n C 0 dX9_needPrint_5 rfl rfl ?_
    refine G.getR (k := 8) C k_X9 (sc_0 hE) rfl (by decide) tg_487 dX9_needPrint_6 ?_
    refine G.getIN (k := 7) C k_X0 (sc_50 hE) rfl (by decide) tw_382 dX9_needPrint_9 ?_
    refine G.icmp_lt (tgt := 26) C dX9_needPrint_12 (by decide) (fun hc => ?_) (fun hc => ?_)
    · have h := it_t h hc
      cases h
      exact G.vret C hr dX9_needPrint_26
    · have h := it_f h hc
      cases h
def f_X9_needPrint_0 (x1 : Int32) (M : Mm) : Option Unit := bb_X9_needPrint_0_0 x1 M
theorem s_X9_needPrint_0 {l : Launch} {E : Ev} {x1 : Int32} {M : Mm}  (hE : Has shC (eH E)) (h : f_X9_needPrint_0 x1 M = some ()) : MetA l yX9_needPrint cX9_needPrint 2 none 1 E [.ref (eA E 0), .int x1] M none M := by
  refine MetA.of (by decide +kernel) (Nat.le_of_ble_eq_true rfl) ?_
  intro p e s m below meth c C hr hnm
  exact G.sub [0, 1] rfl (gb_X9_needPrint_0_0 hE C hr  h)
def bb_X9_needRange_0 (x0 : Int32) (x1 : Int32) (x2 : Int32) : Option Unit := if x0 < x1 then (none) else (if x0 ≤ x2 then (some ()) else (none))
set_option maxHeartbeats 4000000 in
set_option maxRecDepth 100000 in
theorem gb_X9_needRange_0 {M : Mm}  {x0 : Int32} {x1 : Int32} {x2 : Int32}  (C : Cx RX9 cX9_needRange 3 p (rmD 1) s m args meth c E) (hr : meth.sig.returnType = none) (h : bb_X9_needRange_0 x0 x1 x2 = some ()) : G p l e (rmD 1) s m args below meth c E 3 0 0 (QR below args s E 0 0 none M) 0 [(0, .int x0), (1, .int x1), (2, .int x2)] [] M := by
  unfold bb_X9_needRange_0 at h
  refine G.iload_n C 0 dX9_needRange_0 rfl rfl ?_
  refine G.iload_n C 1 dX9_needRange_1 rfl rfl ?_
  refine G.icmp_lt (tgt := 10) C dX9_needRange_2 (by decide) (fun hc => ?_) (fun hc => ?_)
  · have h := it_t h hc
    cases h
  · have h := it_f h hc
    refine G.iload_n C 0 dX9_needRange_5 rfl rfl ?_
    refine G.iload_n C 2 dX9_needRange_6 rfl rfl ?_
    refine G.icmp_le (tgt := 21) C dX9_needRange_7 (by decide) (fun hc => ?_) (fun hc => ?_)
    · have h := it_t h hc
      cases h
      exact G.vret C hr dX9_needRange_21
    · have h := it_f h hc
      cases h
def f_X9_needRange (x0 : Int32) (x1 : Int32) (x2 : Int32) : Option Unit := bb_X9_needRange_0 x0 x1 x2
theorem s_X9_needRange {l : Launch} {E : Ev} {x0 : Int32} {x1 : Int32} {x2 : Int32} {M : Mm}  (h : f_X9_needRange x0 x1 x2 = some ()) : MetA l yX9_needRange cX9_needRange 3 none 1 E [.int x0, .int x1, .int x2] M none M := by
  refine MetA.of (by decide +kernel) (Nat.le_of_ble_eq_true rfl) ?_
  intro p e s m below meth c C hr hnm
  exact G.sub [0, 1, 2] rfl (gb_X9_needRange_0 C hr  h)
def bb_X9_sheet_0_0 (x1 : Int32) (M : Mm) : Option (Int32 × Mm) := bd (f_X9_needRange x1 (0 : Int32) (M.1 1 2)) fun _ => bd2 (f_X8_readFirst_1 x1 M) fun v_5 M_4 => ltv (wI M_4 0 2 (M_4.1 1 6)) fun M_6 => if v_5 = 0 then (bd (f_X7_copyOf_11_3 M_6) fun M_8 => bd (f_X7_findHollows_11 M_8) fun M_10 => bd (f_X1_lay_24_11 M_10) fun M_12 => bd (f_X6_lay_34_11 M_12) fun M_14 => bd (f_X0_wipe_50 M_14) fun M_16 => ltv (wI M_16 0 10 (0 : Int32)) fun M_17 => some (M_17.1 11 7, M_17)) else (some (v_5 - (10 : Int32), M_6))
set_option maxHeartbeats 4000000 in
set_option maxRecDepth 100000 in
theorem gb_X9_sheet_0_0  {x1 : Int32} {M : Mm} {v : Int32} {M' : Mm} (hE : Has shC (eH E)) (C : Cx RX9 cX9_sheet 3 p (rmD 9) s m args meth c E) (hr : meth.sig.returnType = (some .int)) (h : bb_X9_sheet_0_0 x1 M = some (v, M')) : G p l e (rmD 9) s m args below meth c E 3 0 0 (QR below args s E 0 0 (some (.int v)) M') 0 [(0, .ref (eA E 0)), (1, .int x1)] [] M := by
  unfold bb_X9_sheet_0_0 at h
  refine G.iload_n C 1 dX9_sheet_0 rfl rfl ?_
  refine G.iconst (v := (0 : Int32)) C dX9_sheet_1 (by decide) ?_
  refine G.aload_n C 0 dX9_sheet_2 rfl rfl ?_
  refine G.getR (k := 0) C k_X9 (sc_0 hE) rfl (by decide) tg_479 dX9_sheet_3 ?_
  refine G.getIN (k := 2) C k_X8 (sc_1 hE) rfl (by decide) tw_198 dX9_sheet_6 ?_
  obtain ⟨u_2, hv_1, h⟩ := bd_ex h
  refine G.callS (rest := []) C (s_X9_needRange  hv_1) ⟨tg_641, tg_90, ok_X9_needRange, Nat.le_of_ble_eq_true rfl, Nat.le_of_ble_eq_true rfl⟩ tg_639 tg_640 rfl (Nat.le_of_ble_eq_true rfl) dX9_sheet_9 ⟨Nat.le_refl 0, Nat.le_refl 0⟩ ?_
  refine G.aload_n C 0 dX9_sheet_12 rfl rfl ?_
  refine G.getR (k := 0) C k_X9 (sc_0 hE) rfl (by decide) tg_479 dX9_sheet_13 ?_
  refine G.iload_n C 1 dX9_sheet_16 rfl rfl ?_
  obtain ⟨v_5, M_4, hv_3, h⟩ := bd2_ex h
  refine G.callV (rest := []) C (s_X8_readFirst_1 hE  hv_3) ⟨tg_713, tg_91, ok_X8_readFirst, Nat.le_of_ble_eq_true rfl, Nat.le_of_ble_eq_true rfl⟩ tg_710 tg_711 tg_712 (sc_1 hE) rfl rfl (Nat.le_of_ble_eq_true rfl) dX9_sheet_17 ⟨Nat.le_refl 0, Nat.le_refl 0⟩ ?_
  refine G.istore_n (L' := [(2, .int v_5), (0, .ref (eA E 0)), (1, .int x1)]) C dX9_sheet_20 rfl rfl (by decide) rfl ?_
  refine G.aload_n C 1 dX9_sheet_21 rfl rfl ?_
  refine G.aload_n C 1 dX9_sheet_22 rfl rfl ?_
  refine G.getR (k := 0) C k_X9 (sc_0 hE) rfl (by decide) tg_479 dX9_sheet_23 ?_
  refine G.getIN (k := 6) C k_X8 (sc_1 hE) rfl (by decide) tw_203 dX9_sheet_26 ?_
  obtain ⟨M_6, eM_6, h⟩ := ltv_ex h
  refine G.putI (k := 2) C k_X9 (sc_0 hE) rfl (by decide) tg_481 rfl rfl dX9_sheet_29 eM_6 ?_
  refine G.iload_n C 0 dX9_sheet_32 rfl rfl ?_
  refine G.if_eq (tgt := 41) C dX9_sheet_33 (by decide) (fun hc => ?_) (fun hc => ?_)
  · have h := it_t h hc
    refine G.aload_n C 1 dX9_sheet_41 rfl rfl ?_
    refine G.getR (k := 1) C k_X9 (sc_0 hE) rfl (by decide) tg_480 dX9_sheet_42 ?_
    refine G.aload_n C 1 dX9_sheet_45 rfl rfl ?_
    refine G.getR (k := 0) C k_X9 (sc_0 hE) rfl (by decide) tg_479 dX9_sheet_46 ?_
    refine G.getRN (k := 1) C k_X8 (sc_1 hE) rfl (by decide) tw_196 dX9_sheet_49 ?_
    obtain ⟨M_8, hv_7, h⟩ := bd_ex h
    refine G.callV (rest := []) C (s_X7_copyOf_11_3 hE  hv_7) ⟨tg_861, tg_92, ok_X7_copyOf, Nat.le_of_ble_eq_true rfl, Nat.le_of_ble_eq_true rfl⟩ tg_858 tg_859 tg_860 (sc_11 hE) rfl rfl (Nat.le_of_ble_eq_true rfl) dX9_sheet_52 ⟨Nat.le_refl 0, Nat.le_refl 0⟩ ?_
    refine G.aload_n C 1 dX9_sheet_55 rfl rfl ?_
    refine G.getR (k := 1) C k_X9 (sc_0 hE) rfl (by decide) tg_480 dX9_sheet_56 ?_
    obtain ⟨M_10, hv_9, h⟩ := bd_ex h
    refine G.callV (rest := []) C (s_X7_findHollows_11 hE  hv_9) ⟨tg_867, tg_92, ok_X7_findHollows, Nat.le_of_ble_eq_true rfl, Nat.le_of_ble_eq_true rfl⟩ tg_864 tg_865 tg_866 (sc_11 hE) rfl rfl (Nat.le_of_ble_eq_true rfl) dX9_sheet_59 ⟨Nat.le_refl 0, Nat.le_refl 0⟩ ?_
    refine G.aload_n C 1 dX9_sheet_62 rfl rfl ?_
    refine G.getR (k := 4) C k_X9 (sc_0 hE) rfl (by decide) tg_483 dX9_sheet_63 ?_
    refine G.aload_n C 1 dX9_sheet_66 rfl rfl ?_
    refine G.getR (k := 1) C k_X9 (sc_0 hE) rfl (by decide) tg_480 dX9_sheet_67 ?_
    obtain ⟨M_12, hv_11, h⟩ := bd_ex h
    refine G.callV (rest := []) C (s_X1_lay_24_11 hE  hv_11) ⟨tg_419, tg_94, ok_X1_lay, Nat.le_of_ble_eq_true rfl, Nat.le_of_ble_eq_true rfl⟩ tg_416 tg_417 tg_418 (sc_24 hE) rfl rfl (Nat.le_of_ble_eq_true rfl) dX9_sheet_70 ⟨Nat.le_refl 0, Nat.le_refl 0⟩ ?_
    refine G.aload_n C 1 dX9_sheet_73 rfl rfl ?_
    refine G.getR (k := 6) C k_X9 (sc_0 hE) rfl (by decide) tg_485 dX9_sheet_74 ?_
    refine G.aload_n C 1 dX9_sheet_77 rfl rfl ?_
    refine G.getR (k := 1) C k_X9 (sc_0 hE) rfl (by decide) tg_480 dX9_sheet_78 ?_
    obtain ⟨M_14, hv_13, h⟩ := bd_ex h
    refine G.callV (rest := []) C (s_X6_lay_34_11 hE  hv_13) ⟨tg_450, tg_96, ok_X6_lay, Nat.le_of_ble_eq_true rfl, Nat.le_of_ble_eq_true rfl⟩ tg_447 tg_448 tg_449 (sc_34 hE) rfl rfl (Nat.le_of_ble_eq_true rfl) dX9_sheet_81 ⟨Nat.le_refl 0, Nat.le_refl 0⟩ ?_
    refine G.aload_n C 1 dX9_sheet_84 rfl rfl ?_
    refine G.getR (k := 8) C k_X9 (sc_0 hE) rfl (by decide) tg_487 dX9_sheet_85 ?_
    obtain ⟨M_16, hv_15, h⟩ := bd_ex h
    refine G.callV (rest := []) C (s_X0_wipe_50 hE  hv_15) ⟨tg_415, tg_98, ok_X0_wipe, Nat.le_of_ble_eq_true rfl, Nat.le_of_ble_eq_true rfl⟩ tg_412 tg_413 tg_414 (sc_50 hE) rfl rfl (Nat.le_of_ble_eq_true rfl) dX9_sheet_88 ⟨Nat.le_refl 0, Nat.le_refl 0⟩ ?_
    refine G.aload_n C 1 dX9_sheet_91 rfl rfl ?_
    refine G.iconst (v := (0 : Int32)) C dX9_sheet_92 (by decide) ?_
    obtain ⟨M_17, eM_17, h⟩ := ltv_ex h
    refine G.putI (k := 10) C k_X9 (sc_0 hE) rfl (by decide) tg_489 rfl rfl dX9_sheet_93 eM_17 ?_
    refine G.aload_n C 1 dX9_sheet_96 rfl rfl ?_
    refine G.getR (k := 1) C k_X9 (sc_0 hE) rfl (by decide) tg_480 dX9_sheet_97 ?_
    refine G.getIN (k := 7) C k_X7 (sc_11 hE) rfl (by decide) tw_159 dX9_sheet_100 ?_
    cases h
    exact G.iret C hr dX9_sheet_103
  · have h := it_f h hc
    refine G.iload_n C 0 dX9_sheet_36 rfl rfl ?_
    refine G.bipush (v := (10 : Int32)) C dX9_sheet_37 (by decide) ?_
    refine G.isub C dX9_sheet_39 ?_
    cases h
    exact G.iret C hr dX9_sheet_40
def f_X9_sheet_0 (x1 : Int32) (M : Mm) : Option (Int32 × Mm) := bb_X9_sheet_0_0 x1 M
theorem s_X9_sheet_0 {l : Launch} {E : Ev} {x1 : Int32} {M : Mm} {v : Int32} {M' : Mm} (hE : Has shC (eH E)) (h : f_X9_sheet_0 x1 M = some (v, M')) : MetA l yX9_sheet cX9_sheet 3 (some .int) 9 E [.ref (eA E 0), .int x1] M (some (.int v)) M' := by
  refine MetA.of (by decide +kernel) (Nat.le_of_ble_eq_true rfl) ?_
  intro p e s m below meth c C hr hnm
  exact G.sub [0, 1] rfl (gb_X9_sheet_0_0 hE C hr  h)
def bb_X9_told_0_0 (x1 : Int32) (M : Mm) : Option Int32 := bd (f_X9_needRange x1 (0 : Int32) (2 : Int32)) fun _ => if x1 = 0 then (some (M.1 11 7)) else (if x1 = (1 : Int32) then (some (M.1 11 8)) else (some (M.1 11 9)))
set_option maxHeartbeats 4000000 in
set_option maxRecDepth 100000 in
theorem gb_X9_told_0_0  {x1 : Int32} {M : Mm} {v : Int32} (hE : Has shC (eH E)) (C : Cx RX9 cX9_told 2 p (rmD 2) s m args meth c E) (hr : meth.sig.returnType = (some .int)) (h : bb_X9_told_0_0 x1 M = some v) : G p l e (rmD 2) s m args below meth c E 2 0 0 (QR below args s E 0 0 (some (.int v)) M) 0 [(0, .ref (eA E 0)), (1, .int x1)] [] M := by
  unfold bb_X9_told_0_0 at h
  refine G.iload_n C 1 dX9_told_0 rfl rfl ?_
  refine G.iconst (v := (0 : Int32)) C dX9_told_1 (by decide) ?_
  refine G.iconst (v := (2 : Int32)) C dX9_told_2 (by decide) ?_
  obtain ⟨u_2, hv_1, h⟩ := bd_ex h
  refine G.callS (rest := []) C (s_X9_needRange  hv_1) ⟨tg_641, tg_90, ok_X9_needRange, Nat.le_of_ble_eq_true rfl, Nat.le_of_ble_eq_true rfl⟩ tg_639 tg_640 rfl (Nat.le_of_ble_eq_true rfl) dX9_told_3 ⟨Nat.le_refl 0, Nat.le_refl 0⟩ ?_
  refine G.iload_n C 1 dX9_told_6 rfl rfl ?_
  refine G.if_ne (tgt := 18) C dX9_told_7 (by decide) (fun hc => ?_) (fun hc => ?_)
  · have h := it_f h hc
    refine G.iload_n C 1 dX9_told_18 rfl rfl ?_
    refine G.iconst (v := (1 : Int32)) C dX9_told_19 (by decide) ?_
    refine G.icmp_ne (tgt := 33) C dX9_told_20 (by decide) (fun hc => ?_) (fun hc => ?_)
    · have h := it_f h hc
      refine G.aload_n C 0 dX9_told_33 rfl rfl ?_
      refine G.getR (k := 1) C k_X9 (sc_0 hE) rfl (by decide) tg_480 dX9_told_34 ?_
      refine G.getIN (k := 9) C k_X7 (sc_11 hE) rfl (by decide) tw_169 dX9_told_37 ?_
      cases h
      exact G.iret C hr dX9_told_40
    · have h := it_t h hc
      refine G.aload_n C 0 dX9_told_23 rfl rfl ?_
      refine G.getR (k := 1) C k_X9 (sc_0 hE) rfl (by decide) tg_480 dX9_told_24 ?_
      refine G.getIN (k := 8) C k_X7 (sc_11 hE) rfl (by decide) tw_164 dX9_told_27 ?_
      refine G.goto (tgt := 40) C dX9_told_30 (by decide) ?_
      cases h
      exact G.iret C hr dX9_told_40
  · have h := it_t h hc
    refine G.aload_n C 0 dX9_told_10 rfl rfl ?_
    refine G.getR (k := 1) C k_X9 (sc_0 hE) rfl (by decide) tg_480 dX9_told_11 ?_
    refine G.getIN (k := 7) C k_X7 (sc_11 hE) rfl (by decide) tw_159 dX9_told_14 ?_
    cases h
    exact G.iret C hr dX9_told_17
def f_X9_told_0 (x1 : Int32) (M : Mm) : Option Int32 := bb_X9_told_0_0 x1 M
theorem s_X9_told_0 {l : Launch} {E : Ev} {x1 : Int32} {M : Mm} {v : Int32} (hE : Has shC (eH E)) (h : f_X9_told_0 x1 M = some v) : MetA l yX9_told cX9_told 2 (some .int) 2 E [.ref (eA E 0), .int x1] M (some (.int v)) M := by
  refine MetA.of (by decide +kernel) (Nat.le_of_ble_eq_true rfl) ?_
  intro p e s m below meth c C hr hnm
  exact G.sub [0, 1] rfl (gb_X9_told_0_0 hE C hr  h)
def bb_X9_squares_0_0 (x1 : Int32) (x2 : Int32) (M : Mm) : Option Int64 := bd (f_X9_needLetter_0 x1 M) fun _ => bd (f_X9_needRange x2 (0 : Int32) (2 : Int32)) fun _ => gd (inb x1 10) (ltv (M.2 12 (ix x1)) fun x3_6 => if x2 = 0 then (some x3_6) else (if x2 = (1 : Int32) then (bd (f_X4_reached x3_6) fun v_10 => some v_10) else (bd (f_X4_hidden x3_6) fun v_8 => some v_8)))
set_option maxHeartbeats 4000000 in
set_option maxRecDepth 100000 in
theorem gb_X9_squares_0_0  {x1 : Int32} {x2 : Int32} {M : Mm} {v : Int64} (hE : Has shC (eH E)) (C : Cx RX9 cX9_squares 5 p (rmD 5) s m args meth c E) (hr : meth.sig.returnType = (some .long)) (h : bb_X9_squares_0_0 x1 x2 M = some v) : G p l e (rmD 5) s m args below meth c E 5 0 0 (QR below args s E 0 0 (some (.long v)) M) 0 [(0, .ref (eA E 0)), (1, .int x1), (2, .int x2)] [] M := by
  unfold bb_X9_squares_0_0 at h
  refine G.aload_n C 0 dX9_squares_0 rfl rfl ?_
  refine G.iload_n C 1 dX9_squares_1 rfl rfl ?_
  obtain ⟨u_2, hv_1, h⟩ := bd_ex h
  refine G.callV (rest := []) C (s_X9_needLetter_0 hE  hv_1) ⟨tg_894, tg_90, ok_X9_needLetter, Nat.le_of_ble_eq_true rfl, Nat.le_of_ble_eq_true rfl⟩ tg_891 tg_893 tg_22 (sc_0 hE) rfl rfl (Nat.le_of_ble_eq_true rfl) dX9_squares_2 ⟨Nat.le_refl 0, Nat.le_refl 0⟩ ?_
  refine G.iload_n C 2 dX9_squares_5 rfl rfl ?_
  refine G.iconst (v := (0 : Int32)) C dX9_squares_6 (by decide) ?_
  refine G.iconst (v := (2 : Int32)) C dX9_squares_7 (by decide) ?_
  obtain ⟨u_4, hv_3, h⟩ := bd_ex h
  refine G.callS (rest := []) C (s_X9_needRange  hv_3) ⟨tg_641, tg_90, ok_X9_needRange, Nat.le_of_ble_eq_true rfl, Nat.le_of_ble_eq_true rfl⟩ tg_639 tg_640 rfl (Nat.le_of_ble_eq_true rfl) dX9_squares_8 ⟨Nat.le_refl 0, Nat.le_refl 0⟩ ?_
  refine G.aload_n C 0 dX9_squares_11 rfl rfl ?_
  refine G.getR (k := 1) C k_X9 (sc_0 hE) rfl (by decide) tg_480 dX9_squares_12 ?_
  refine G.getRN (k := 0) C k_X7 (sc_11 hE) rfl (by decide) tw_137 dX9_squares_15 ?_
  refine G.iload_n C 1 dX9_squares_18 rfl rfl ?_
  obtain ⟨hg_5, h⟩ := gd_ex h
  refine G.aJ (j := ix x1) C (sc_12 hE) hg_5 rfl dX9_squares_19 ?_
  obtain ⟨x3_6, ex3_6, h⟩ := ltv_ex h
  refine G.lstore_n (L' := [(3, .long x3_6), (0, .ref (eA E 0)), (1, .int x1), (2, .int x2)]) C dX9_squares_20 rfl ex3_6 (by decide) rfl ?_
  refine G.iload_n C 3 dX9_squares_21 rfl rfl ?_
  refine G.if_ne (tgt := 27) C dX9_squares_22 (by decide) (fun hc => ?_) (fun hc => ?_)
  · have h := it_f h hc
    refine G.iload_n C 3 dX9_squares_27 rfl rfl ?_
    refine G.iconst (v := (1 : Int32)) C dX9_squares_28 (by decide) ?_
    refine G.icmp_ne (tgt := 39) C dX9_squares_29 (by decide) (fun hc => ?_) (fun hc => ?_)
    · have h := it_f h hc
      refine G.lload_n C 0 dX9_squares_39 rfl rfl ?_
      obtain ⟨v_8, hv_7, h⟩ := bd_ex h
      refine G.callS (rest := []) C (s_X4_hidden  hv_7) ⟨tg_870, tg_101, ok_X4_hidden, Nat.le_of_ble_eq_true rfl, Nat.le_of_ble_eq_true rfl⟩ tg_911 tg_869 rfl (Nat.le_of_ble_eq_true rfl) dX9_squares_40 ⟨Nat.le_refl 0, Nat.le_refl 0⟩ ?_
      cases h
      exact G.lret C hr dX9_squares_43
    · have h := it_t h hc
      refine G.lload_n C 0 dX9_squares_32 rfl rfl ?_
      obtain ⟨v_10, hv_9, h⟩ := bd_ex h
      refine G.callS (rest := []) C (s_X4_reached  hv_9) ⟨tg_585, tg_101, ok_X4_reached, Nat.le_of_ble_eq_true rfl, Nat.le_of_ble_eq_true rfl⟩ tg_583 tg_584 rfl (Nat.le_of_ble_eq_true rfl) dX9_squares_33 ⟨Nat.le_refl 0, Nat.le_refl 0⟩ ?_
      refine G.goto (tgt := 43) C dX9_squares_36 (by decide) ?_
      cases h
      exact G.lret C hr dX9_squares_43
  · have h := it_t h hc
    refine G.lload_n C 0 dX9_squares_25 rfl rfl ?_
    cases h
    exact G.lret C hr dX9_squares_26
def f_X9_squares_0 (x1 : Int32) (x2 : Int32) (M : Mm) : Option Int64 := bb_X9_squares_0_0 x1 x2 M
theorem s_X9_squares_0 {l : Launch} {E : Ev} {x1 : Int32} {x2 : Int32} {M : Mm} {v : Int64} (hE : Has shC (eH E)) (h : f_X9_squares_0 x1 x2 M = some v) : MetA l yX9_squares cX9_squares 5 (some .long) 5 E [.ref (eA E 0), .int x1, .int x2] M (some (.long v)) M := by
  refine MetA.of (by decide +kernel) (Nat.le_of_ble_eq_true rfl) ?_
  intro p e s m below meth c C hr hnm
  exact G.sub [0, 1, 2] rfl (gb_X9_squares_0_0 hE C hr  h)
def bb_X9_letter_0_0 (x1 : Int32) (x2 : Int32) (M : Mm) : Option Int32 := bd (f_X9_needLetter_0 x1 M) fun _ => bd (f_X9_needRange x2 (0 : Int32) (4 : Int32)) fun _ => gd (inb x1 10) (ltv (M.2 12 (ix x1)) fun x3_6 => if x2 = (0 : Int32) then (bd (f_J13_bitCount_95d88 x3_6) fun v_8 => some v_8) else (if x2 = (1 : Int32) then (bd (f_X4_beside x3_6) fun v_10 => bd (f_J13_bitCount_95d88 v_10) fun v_12 => some v_12) else (if x2 = (2 : Int32) then (bd (f_X4_broad x3_6) fun v_14 => some v_14) else (if x2 = (3 : Int32) then (bd (f_X7_firstHollowOf_11 x1 M) fun v_16 => some v_16) else (bd (f_X7_hollowsOf_11 x1 M) fun v_18 => some v_18)))))
set_option maxHeartbeats 4000000 in
set_option maxRecDepth 100000 in
theorem gb_X9_letter_0_0  {x1 : Int32} {x2 : Int32} {M : Mm} {v : Int32} (hE : Has shC (eH E)) (C : Cx RX9 cX9_letter 5 p (rmD 3) s m args meth c E) (hr : meth.sig.returnType = (some .int)) (h : bb_X9_letter_0_0 x1 x2 M = some v) : G p l e (rmD 3) s m args below meth c E 5 0 0 (QR below args s E 0 0 (some (.int v)) M) 0 [(0, .ref (eA E 0)), (1, .int x1), (2, .int x2)] [] M := by
  unfold bb_X9_letter_0_0 at h
  refine G.aload_n C 0 dX9_letter_0 rfl rfl ?_
  refine G.iload_n C 1 dX9_letter_1 rfl rfl ?_
  obtain ⟨u_2, hv_1, h⟩ := bd_ex h
  refine G.callV (rest := []) C (s_X9_needLetter_0 hE  hv_1) ⟨tg_894, tg_90, ok_X9_needLetter, Nat.le_of_ble_eq_true rfl, Nat.le_of_ble_eq_true rfl⟩ tg_891 tg_893 tg_22 (sc_0 hE) rfl rfl (Nat.le_of_ble_eq_true rfl) dX9_letter_2 ⟨Nat.le_refl 0, Nat.le_refl 0⟩ ?_
  refine G.iload_n C 2 dX9_letter_5 rfl rfl ?_
  refine G.iconst (v := (0 : Int32)) C dX9_letter_6 (by decide) ?_
  refine G.iconst (v := (4 : Int32)) C dX9_letter_7 (by decide) ?_
  obtain ⟨u_4, hv_3, h⟩ := bd_ex h
  refine G.callS (rest := []) C (s_X9_needRange  hv_3) ⟨tg_641, tg_90, ok_X9_needRange, Nat.le_of_ble_eq_true rfl, Nat.le_of_ble_eq_true rfl⟩ tg_639 tg_640 rfl (Nat.le_of_ble_eq_true rfl) dX9_letter_8 ⟨Nat.le_refl 0, Nat.le_refl 0⟩ ?_
  refine G.aload_n C 0 dX9_letter_11 rfl rfl ?_
  refine G.getR (k := 1) C k_X9 (sc_0 hE) rfl (by decide) tg_480 dX9_letter_12 ?_
  refine G.getRN (k := 0) C k_X7 (sc_11 hE) rfl (by decide) tw_137 dX9_letter_15 ?_
  refine G.iload_n C 1 dX9_letter_18 rfl rfl ?_
  obtain ⟨hg_5, h⟩ := gd_ex h
  refine G.aJ (j := ix x1) C (sc_12 hE) hg_5 rfl dX9_letter_19 ?_
  obtain ⟨x3_6, ex3_6, h⟩ := ltv_ex h
  refine G.lstore_n (L' := [(3, .long x3_6), (0, .ref (eA E 0)), (1, .int x1), (2, .int x2)]) C dX9_letter_20 rfl ex3_6 (by decide) rfl ?_
  refine G.iload_n C 3 dX9_letter_21 rfl rfl ?_
  by_cases hc0 : x2 = (0 : Int32)
  · have h := it_t h hc0
    refine G.tableIn (tgt := 52) C dX9_letter_22 (by rw [hc0]; decide) (by rw [hc0]; decide) (by rw [hc0]; rfl) (by decide) ?_
    refine G.lload_n C 0 dX9_letter_52 rfl rfl ?_
    obtain ⟨v_8, hv_7, h⟩ := bd_ex h
    refine G.callS (rest := []) C (s_J13_bitCount_95d88  hv_7) ⟨tg_457, tg_102, ok_J13_bitCount_95d88, Nat.le_of_ble_eq_true rfl, Nat.le_of_ble_eq_true rfl⟩ tg_919 tg_456 rfl (Nat.le_of_ble_eq_true rfl) dX9_letter_53 ⟨Nat.le_refl 0, Nat.le_refl 0⟩ ?_
    cases h
    exact G.iret C hr dX9_letter_56
  have h := it_f h hc0
  by_cases hc1 : x2 = (1 : Int32)
  · have h := it_t h hc1
    refine G.tableIn (tgt := 57) C dX9_letter_22 (by rw [hc1]; decide) (by rw [hc1]; decide) (by rw [hc1]; rfl) (by decide) ?_
    refine G.lload_n C 0 dX9_letter_57 rfl rfl ?_
    obtain ⟨v_10, hv_9, h⟩ := bd_ex h
    refine G.callS (rest := []) C (s_X4_beside  hv_9) ⟨tg_463, tg_101, ok_X4_beside, Nat.le_of_ble_eq_true rfl, Nat.le_of_ble_eq_true rfl⟩ tg_920 tg_462 rfl (Nat.le_of_ble_eq_true rfl) dX9_letter_58 ⟨Nat.le_refl 0, Nat.le_refl 0⟩ ?_
    obtain ⟨v_12, hv_11, h⟩ := bd_ex h
    refine G.callS (rest := []) C (s_J13_bitCount_95d88  hv_11) ⟨tg_457, tg_102, ok_J13_bitCount_95d88, Nat.le_of_ble_eq_true rfl, Nat.le_of_ble_eq_true rfl⟩ tg_919 tg_456 rfl (Nat.le_of_ble_eq_true rfl) dX9_letter_61 ⟨Nat.le_refl 0, Nat.le_refl 0⟩ ?_
    cases h
    exact G.iret C hr dX9_letter_64
  have h := it_f h hc1
  by_cases hc2 : x2 = (2 : Int32)
  · have h := it_t h hc2
    refine G.tableIn (tgt := 65) C dX9_letter_22 (by rw [hc2]; decide) (by rw [hc2]; decide) (by rw [hc2]; rfl) (by decide) ?_
    refine G.lload_n C 0 dX9_letter_65 rfl rfl ?_
    obtain ⟨v_14, hv_13, h⟩ := bd_ex h
    refine G.callS (rest := []) C (s_X4_broad  hv_13) ⟨tg_472, tg_101, ok_X4_broad, Nat.le_of_ble_eq_true rfl, Nat.le_of_ble_eq_true rfl⟩ tg_921 tg_471 rfl (Nat.le_of_ble_eq_true rfl) dX9_letter_66 ⟨Nat.le_refl 0, Nat.le_refl 0⟩ ?_
    cases h
    exact G.iret C hr dX9_letter_69
  have h := it_f h hc2
  by_cases hc3 : x2 = (3 : Int32)
  · have h := it_t h hc3
    refine G.tableIn (tgt := 70) C dX9_letter_22 (by rw [hc3]; decide) (by rw [hc3]; decide) (by rw [hc3]; rfl) (by decide) ?_
    refine G.aload_n C 1 dX9_letter_70 rfl rfl ?_
    refine G.getR (k := 1) C k_X9 (sc_0 hE) rfl (by decide) tg_480 dX9_letter_71 ?_
    refine G.iload_n C 2 dX9_letter_74 rfl rfl ?_
    obtain ⟨v_16, hv_15, h⟩ := bd_ex h
    refine G.callV (rest := []) C (s_X7_firstHollowOf_11 hE  hv_15) ⟨tg_925, tg_92, ok_X7_firstHollowOf, Nat.le_of_ble_eq_true rfl, Nat.le_of_ble_eq_true rfl⟩ tg_922 tg_923 tg_924 (sc_11 hE) rfl rfl (Nat.le_of_ble_eq_true rfl) dX9_letter_75 ⟨Nat.le_refl 0, Nat.le_refl 0⟩ ?_
    cases h
    exact G.iret C hr dX9_letter_78
  have h := it_f h hc3
  refine G.tableOut (tgt := 79) C dX9_letter_22 (by have q0 := ne_toInt (z := 0) (by decide) hc0; have q1 := ne_toInt (z := 1) (by decide) hc1; have q2 := ne_toInt (z := 2) (by decide) hc2; have q3 := ne_toInt (z := 3) (by decide) hc3; omega) (by decide) ?_
  refine G.aload_n C 1 dX9_letter_79 rfl rfl ?_
  refine G.getR (k := 1) C k_X9 (sc_0 hE) rfl (by decide) tg_480 dX9_letter_80 ?_
  refine G.iload_n C 2 dX9_letter_83 rfl rfl ?_
  obtain ⟨v_18, hv_17, h⟩ := bd_ex h
  refine G.callV (rest := []) C (s_X7_hollowsOf_11 hE  hv_17) ⟨tg_929, tg_92, ok_X7_hollowsOf, Nat.le_of_ble_eq_true rfl, Nat.le_of_ble_eq_true rfl⟩ tg_926 tg_927 tg_928 (sc_11 hE) rfl rfl (Nat.le_of_ble_eq_true rfl) dX9_letter_84 ⟨Nat.le_refl 0, Nat.le_refl 0⟩ ?_
  cases h
  exact G.iret C hr dX9_letter_87
def f_X9_letter_0 (x1 : Int32) (x2 : Int32) (M : Mm) : Option Int32 := bb_X9_letter_0_0 x1 x2 M
theorem s_X9_letter_0 {l : Launch} {E : Ev} {x1 : Int32} {x2 : Int32} {M : Mm} {v : Int32} (hE : Has shC (eH E)) (h : f_X9_letter_0 x1 x2 M = some v) : MetA l yX9_letter cX9_letter 5 (some .int) 3 E [.ref (eA E 0), .int x1, .int x2] M (some (.int v)) M := by
  refine MetA.of (by decide +kernel) (Nat.le_of_ble_eq_true rfl) ?_
  intro p e s m below meth c C hr hnm
  exact G.sub [0, 1, 2] rfl (gb_X9_letter_0_0 hE C hr  h)
def bb_X9_hollow_0_0 (x1 : Int32) (M : Mm) : Option Int64 := bd (f_X9_needHollow_0 x1 M) fun _ => gd (inb x1 16) (some (M.2 17 (ix x1)))
set_option maxHeartbeats 4000000 in
set_option maxRecDepth 100000 in
theorem gb_X9_hollow_0_0  {x1 : Int32} {M : Mm} {v : Int64} (hE : Has shC (eH E)) (C : Cx RX9 cX9_hollow 2 p (rmD 2) s m args meth c E) (hr : meth.sig.returnType = (some .long)) (h : bb_X9_hollow_0_0 x1 M = some v) : G p l e (rmD 2) s m args below meth c E 2 0 0 (QR below args s E 0 0 (some (.long v)) M) 0 [(0, .ref (eA E 0)), (1, .int x1)] [] M := by
  unfold bb_X9_hollow_0_0 at h
  refine G.aload_n C 0 dX9_hollow_0 rfl rfl ?_
  refine G.iload_n C 1 dX9_hollow_1 rfl rfl ?_
  obtain ⟨u_2, hv_1, h⟩ := bd_ex h
  refine G.callV (rest := []) C (s_X9_needHollow_0 hE  hv_1) ⟨tg_941, tg_90, ok_X9_needHollow, Nat.le_of_ble_eq_true rfl, Nat.le_of_ble_eq_true rfl⟩ tg_938 tg_940 tg_23 (sc_0 hE) rfl rfl (Nat.le_of_ble_eq_true rfl) dX9_hollow_2 ⟨Nat.le_refl 0, Nat.le_refl 0⟩ ?_
  refine G.aload_n C 0 dX9_hollow_5 rfl rfl ?_
  refine G.getR (k := 1) C k_X9 (sc_0 hE) rfl (by decide) tg_480 dX9_hollow_6 ?_
  refine G.getRN (k := 5) C k_X7 (sc_11 hE) rfl (by decide) tw_151 dX9_hollow_9 ?_
  refine G.iload_n C 1 dX9_hollow_12 rfl rfl ?_
  obtain ⟨hg_3, h⟩ := gd_ex h
  refine G.aJ (j := ix x1) C (sc_17 hE) hg_3 rfl dX9_hollow_13 ?_
  cases h
  exact G.lret C hr dX9_hollow_14
def f_X9_hollow_0 (x1 : Int32) (M : Mm) : Option Int64 := bb_X9_hollow_0_0 x1 M
theorem s_X9_hollow_0 {l : Launch} {E : Ev} {x1 : Int32} {M : Mm} {v : Int64} (hE : Has shC (eH E)) (h : f_X9_hollow_0 x1 M = some v) : MetA l yX9_hollow cX9_hollow 2 (some .long) 2 E [.ref (eA E 0), .int x1] M (some (.long v)) M := by
  refine MetA.of (by decide +kernel) (Nat.le_of_ble_eq_true rfl) ?_
  intro p e s m below meth c C hr hnm
  exact G.sub [0, 1] rfl (gb_X9_hollow_0_0 hE C hr  h)
def bb_X9_apart_0_0 (x1 : Int32) (x2 : Int32) (x3 : Int32) (M : Mm) : Option Int32 := bd (f_X9_needHollow_0 x1 M) fun _ => bd (f_X9_needHollow_0 x2 M) fun _ => bd (f_X1_apartOf_24 x1 x2 x3 M) fun v_6 => some v_6
set_option maxHeartbeats 4000000 in
set_option maxRecDepth 100000 in
theorem gb_X9_apart_0_0  {x1 : Int32} {x2 : Int32} {x3 : Int32} {M : Mm} {v : Int32} (hE : Has shC (eH E)) (C : Cx RX9 cX9_apart 4 p (rmD 4) s m args meth c E) (hr : meth.sig.returnType = (some .int)) (h : bb_X9_apart_0_0 x1 x2 x3 M = some v) : G p l e (rmD 4) s m args below meth c E 4 0 0 (QR below args s E 0 0 (some (.int v)) M) 0 [(0, .ref (eA E 0)), (1, .int x1), (2, .int x2), (3, .int x3)] [] M := by
  unfold bb_X9_apart_0_0 at h
  refine G.aload_n C 0 dX9_apart_0 rfl rfl ?_
  refine G.iload_n C 1 dX9_apart_1 rfl rfl ?_
  obtain ⟨u_2, hv_1, h⟩ := bd_ex h
  refine G.callV (rest := []) C (s_X9_needHollow_0 hE  hv_1) ⟨tg_941, tg_90, ok_X9_needHollow, Nat.le_of_ble_eq_true rfl, Nat.le_of_ble_eq_true rfl⟩ tg_938 tg_940 tg_23 (sc_0 hE) rfl rfl (Nat.le_of_ble_eq_true rfl) dX9_apart_2 ⟨Nat.le_refl 0, Nat.le_refl 0⟩ ?_
  refine G.aload_n C 0 dX9_apart_5 rfl rfl ?_
  refine G.iload_n C 2 dX9_apart_6 rfl rfl ?_
  obtain ⟨u_4, hv_3, h⟩ := bd_ex h
  refine G.callV (rest := []) C (s_X9_needHollow_0 hE  hv_3) ⟨tg_941, tg_90, ok_X9_needHollow, Nat.le_of_ble_eq_true rfl, Nat.le_of_ble_eq_true rfl⟩ tg_938 tg_940 tg_23 (sc_0 hE) rfl rfl (Nat.le_of_ble_eq_true rfl) dX9_apart_7 ⟨Nat.le_refl 0, Nat.le_refl 0⟩ ?_
  refine G.aload_n C 0 dX9_apart_10 rfl rfl ?_
  refine G.getR (k := 4) C k_X9 (sc_0 hE) rfl (by decide) tg_483 dX9_apart_11 ?_
  refine G.iload_n C 1 dX9_apart_14 rfl rfl ?_
  refine G.iload_n C 2 dX9_apart_15 rfl rfl ?_
  refine G.iload_n C 3 dX9_apart_16 rfl rfl ?_
  obtain ⟨v_6, hv_5, h⟩ := bd_ex h
  refine G.callV (rest := []) C (s_X1_apartOf_24 hE  hv_5) ⟨tg_968, tg_94, ok_X1_apartOf, Nat.le_of_ble_eq_true rfl, Nat.le_of_ble_eq_true rfl⟩ tg_965 tg_966 tg_967 (sc_24 hE) rfl rfl (Nat.le_of_ble_eq_true rfl) dX9_apart_17 ⟨Nat.le_refl 0, Nat.le_refl 0⟩ ?_
  cases h
  exact G.iret C hr dX9_apart_20
def f_X9_apart_0 (x1 : Int32) (x2 : Int32) (x3 : Int32) (M : Mm) : Option Int32 := bb_X9_apart_0_0 x1 x2 x3 M
theorem s_X9_apart_0 {l : Launch} {E : Ev} {x1 : Int32} {x2 : Int32} {x3 : Int32} {M : Mm} {v : Int32} (hE : Has shC (eH E)) (h : f_X9_apart_0 x1 x2 x3 M = some v) : MetA l yX9_apart cX9_apart 4 (some .int) 4 E [.ref (eA E 0), .int x1, .int x2, .int x3] M (some (.int v)) M := by
  refine MetA.of (by decide +kernel) (Nat.le_of_ble_eq_true rfl) ?_
  intro p e s m below meth c C hr hnm
  exact G.sub [0, 1, 2, 3] rfl (gb_X9_apart_0_0 hE C hr  h)
def bb_X9_punches_0_0 (x1 : Int32) (x2 : Int32) (x3 : Int32) (M : Mm) : Option (Int32 × Mm) := bd (f_X9_needRange x1 (0 : Int32) (64 : Int32)) fun _ => bd (f_X9_needRange x3 (0 : Int32) (1 : Int32)) fun _ => bd2 (f_X1_leastSet_24 x1 x2 M) fun v_7 M_6 => if x3 = 0 then (bd (f_J6_bitCount_0f7a4 v_7) fun v_9 => some (v_9, M_6)) else (some (v_7, M_6))
set_option maxHeartbeats 4000000 in
set_option maxRecDepth 100000 in
theorem gb_X9_punches_0_0  {x1 : Int32} {x2 : Int32} {x3 : Int32} {M : Mm} {v : Int32} {M' : Mm} (hE : Has shC (eH E)) (C : Cx RX9 cX9_punches 5 p (rmD 23) s m args meth c E) (hr : meth.sig.returnType = (some .int)) (h : bb_X9_punches_0_0 x1 x2 x3 M = some (v, M')) : G p l e (rmD 23) s m args below meth c E 5 0 0 (QR below args s E 0 0 (some (.int v)) M') 0 [(0, .ref (eA E 0)), (1, .int x1), (2, .int x2), (3, .int x3)] [] M := by
  unfold bb_X9_punches_0_0 at h
  refine G.iload_n C 1 dX9_punches_0 rfl rfl ?_
  refine G.iconst (v := (0 : Int32)) C dX9_punches_1 (by decide) ?_
  refine G.bipush (v := (64 : Int32)) C dX9_punches_2 (by decide) ?_
  obtain ⟨u_2, hv_1, h⟩ := bd_ex h
  refine G.callS (rest := []) C (s_X9_needRange  hv_1) ⟨tg_641, tg_90, ok_X9_needRange, Nat.le_of_ble_eq_true rfl, Nat.le_of_ble_eq_true rfl⟩ tg_639 tg_640 rfl (Nat.le_of_ble_eq_true rfl) dX9_punches_4 ⟨Nat.le_refl 0, Nat.le_refl 0⟩ ?_
  refine G.iload_n C 3 dX9_punches_7 rfl rfl ?_
  refine G.iconst (v := (0 : Int32)) C dX9_punches_8 (by decide) ?_
  refine G.iconst (v := (1 : Int32)) C dX9_punches_9 (by decide) ?_
  obtain ⟨u_4, hv_3, h⟩ := bd_ex h
  refine G.callS (rest := []) C (s_X9_needRange  hv_3) ⟨tg_641, tg_90, ok_X9_needRange, Nat.le_of_ble_eq_true rfl, Nat.le_of_ble_eq_true rfl⟩ tg_639 tg_640 rfl (Nat.le_of_ble_eq_true rfl) dX9_punches_10 ⟨Nat.le_refl 0, Nat.le_refl 0⟩ ?_
  refine G.aload_n C 0 dX9_punches_13 rfl rfl ?_
  refine G.getR (k := 4) C k_X9 (sc_0 hE) rfl (by decide) tg_483 dX9_punches_14 ?_
  refine G.iload_n C 1 dX9_punches_17 rfl rfl ?_
  refine G.iload_n C 2 dX9_punches_18 rfl rfl ?_
  obtain ⟨v_7, M_6, hv_5, h⟩ := bd2_ex h
  refine G.callV (rest := []) C (s_X1_leastSet_24 hE  hv_5) ⟨tg_983, tg_94, ok_X1_leastSet, Nat.le_of_ble_eq_true rfl, Nat.le_of_ble_eq_true rfl⟩ tg_980 tg_981 tg_982 (sc_24 hE) rfl rfl (Nat.le_of_ble_eq_true rfl) dX9_punches_19 ⟨Nat.le_refl 0, Nat.le_refl 0⟩ ?_
  refine G.istore (L' := [(4, .int v_7), (0, .ref (eA E 0)), (1, .int x1), (2, .int x2), (3, .int x3)]) C dX9_punches_22 rfl (by decide) rfl ?_
  refine G.iload_n C 4 dX9_punches_24 rfl rfl ?_
  refine G.if_ne (tgt := 36) C dX9_punches_25 (by decide) (fun hc => ?_) (fun hc => ?_)
  · have h := it_f h hc
    refine G.iload C 0 dX9_punches_36 rfl ?_
    cases h
    exact G.iret C hr dX9_punches_38
  · have h := it_t h hc
    refine G.iload C 0 dX9_punches_28 rfl ?_
    obtain ⟨v_9, hv_8, h⟩ := bd_ex h
    refine G.callS (rest := []) C (s_J6_bitCount_0f7a4  hv_8) ⟨tg_998, tg_115, ok_J6_bitCount_0f7a4, Nat.le_of_ble_eq_true rfl, Nat.le_of_ble_eq_true rfl⟩ tg_996 tg_997 rfl (Nat.le_of_ble_eq_true rfl) dX9_punches_30 ⟨Nat.le_refl 0, Nat.le_refl 0⟩ ?_
    refine G.goto (tgt := 38) C dX9_punches_33 (by decide) ?_
    cases h
    exact G.iret C hr dX9_punches_38
def f_X9_punches_0 (x1 : Int32) (x2 : Int32) (x3 : Int32) (M : Mm) : Option (Int32 × Mm) := bb_X9_punches_0_0 x1 x2 x3 M
theorem s_X9_punches_0 {l : Launch} {E : Ev} {x1 : Int32} {x2 : Int32} {x3 : Int32} {M : Mm} {v : Int32} {M' : Mm} (hE : Has shC (eH E)) (h : f_X9_punches_0 x1 x2 x3 M = some (v, M')) : MetA l yX9_punches cX9_punches 5 (some .int) 23 E [.ref (eA E 0), .int x1, .int x2, .int x3] M (some (.int v)) M' := by
  refine MetA.of (by decide +kernel) (Nat.le_of_ble_eq_true rfl) ?_
  intro p e s m below meth c C hr hnm
  exact G.sub [0, 1, 2, 3] rfl (gb_X9_punches_0_0 hE C hr  h)
def bb_X9_served_0_0 (x1 : Int32) (x2 : Int32) (x3 : Int32) (M : Mm) : Option (Int32 × Mm) := bd (f_X9_needHollow_0 x1 M) fun _ => bd (f_X9_needRange x2 (0 : Int32) (64 : Int32)) fun _ => bd2 (f_X1_serverOf_24 x1 x2 x3 M) fun v_7 M_6 => some (v_7, M_6)
set_option maxHeartbeats 4000000 in
set_option maxRecDepth 100000 in
theorem gb_X9_served_0_0  {x1 : Int32} {x2 : Int32} {x3 : Int32} {M : Mm} {v : Int32} {M' : Mm} (hE : Has shC (eH E)) (C : Cx RX9 cX9_served 4 p (rmD 24) s m args meth c E) (hr : meth.sig.returnType = (some .int)) (h : bb_X9_served_0_0 x1 x2 x3 M = some (v, M')) : G p l e (rmD 24) s m args below meth c E 4 0 0 (QR below args s E 0 0 (some (.int v)) M') 0 [(0, .ref (eA E 0)), (1, .int x1), (2, .int x2), (3, .int x3)] [] M := by
  unfold bb_X9_served_0_0 at h
  refine G.aload_n C 0 dX9_served_0 rfl rfl ?_
  refine G.iload_n C 1 dX9_served_1 rfl rfl ?_
  obtain ⟨u_2, hv_1, h⟩ := bd_ex h
  refine G.callV (rest := []) C (s_X9_needHollow_0 hE  hv_1) ⟨tg_941, tg_90, ok_X9_needHollow, Nat.le_of_ble_eq_true rfl, Nat.le_of_ble_eq_true rfl⟩ tg_938 tg_940 tg_23 (sc_0 hE) rfl rfl (Nat.le_of_ble_eq_true rfl) dX9_served_2 ⟨Nat.le_refl 0, Nat.le_refl 0⟩ ?_
  refine G.iload_n C 2 dX9_served_5 rfl rfl ?_
  refine G.iconst (v := (0 : Int32)) C dX9_served_6 (by decide) ?_
  refine G.bipush (v := (64 : Int32)) C dX9_served_7 (by decide) ?_
  obtain ⟨u_4, hv_3, h⟩ := bd_ex h
  refine G.callS (rest := []) C (s_X9_needRange  hv_3) ⟨tg_641, tg_90, ok_X9_needRange, Nat.le_of_ble_eq_true rfl, Nat.le_of_ble_eq_true rfl⟩ tg_639 tg_640 rfl (Nat.le_of_ble_eq_true rfl) dX9_served_9 ⟨Nat.le_refl 0, Nat.le_refl 0⟩ ?_
  refine G.aload_n C 0 dX9_served_12 rfl rfl ?_
  refine G.getR (k := 4) C k_X9 (sc_0 hE) rfl (by decide) tg_483 dX9_served_13 ?_
  refine G.iload_n C 1 dX9_served_16 rfl rfl ?_
  refine G.iload_n C 2 dX9_served_17 rfl rfl ?_
  refine G.iload_n C 3 dX9_served_18 rfl rfl ?_
  obtain ⟨v_7, M_6, hv_5, h⟩ := bd2_ex h
  refine G.callV (rest := []) C (s_X1_serverOf_24 hE  hv_5) ⟨tg_1012, tg_94, ok_X1_serverOf, Nat.le_of_ble_eq_true rfl, Nat.le_of_ble_eq_true rfl⟩ tg_1009 tg_1010 tg_1011 (sc_24 hE) rfl rfl (Nat.le_of_ble_eq_true rfl) dX9_served_19 ⟨Nat.le_refl 0, Nat.le_refl 0⟩ ?_
  cases h
  exact G.iret C hr dX9_served_22
def f_X9_served_0 (x1 : Int32) (x2 : Int32) (x3 : Int32) (M : Mm) : Option (Int32 × Mm) := bb_X9_served_0_0 x1 x2 x3 M
theorem s_X9_served_0 {l : Launch} {E : Ev} {x1 : Int32} {x2 : Int32} {x3 : Int32} {M : Mm} {v : Int32} {M' : Mm} (hE : Has shC (eH E)) (h : f_X9_served_0 x1 x2 x3 M = some (v, M')) : MetA l yX9_served cX9_served 4 (some .int) 24 E [.ref (eA E 0), .int x1, .int x2, .int x3] M (some (.int v)) M' := by
  refine MetA.of (by decide +kernel) (Nat.le_of_ble_eq_true rfl) ?_
  intro p e s m below meth c C hr hnm
  exact G.sub [0, 1, 2, 3] rfl (gb_X9_served_0_0 hE C hr  h)
def bb_X9_bites_0_0 (x1 : Int32) (x2 : Int32) (M : Mm) : Option (Int32 × Mm) := bd (f_X9_needLetter_0 x1 M) fun _ => bd (f_X9_needRange x2 (0 : Int32) (1 : Int32)) fun _ => bd2 (f_X9_linesOf_0 x1 M) fun v_7 M_6 => bd (f_J13_bitCount_95d88 v_7) fun v_9 => some (v_9, M_6)
set_option maxHeartbeats 4000000 in
set_option maxRecDepth 100000 in
theorem gb_X9_bites_0_0  {x1 : Int32} {x2 : Int32} {M : Mm} {v : Int32} {M' : Mm} (hE : Has shC (eH E)) (C : Cx RX9 cX9_bites 3 p (rmD 26) s m args meth c E) (hr : meth.sig.returnType = (some .int)) (h : bb_X9_bites_0_0 x1 x2 M = some (v, M')) : G p l e (rmD 26) s m args below meth c E 3 0 0 (QR below args s E 0 0 (some (.int v)) M') 0 [(0, .ref (eA E 0)), (1, .int x1), (2, .int x2)] [] M := by
  unfold bb_X9_bites_0_0 at h
  refine G.aload_n C 0 dX9_bites_0 rfl rfl ?_
  refine G.iload_n C 1 dX9_bites_1 rfl rfl ?_
  obtain ⟨u_2, hv_1, h⟩ := bd_ex h
  refine G.callV (rest := []) C (s_X9_needLetter_0 hE  hv_1) ⟨tg_894, tg_90, ok_X9_needLetter, Nat.le_of_ble_eq_true rfl, Nat.le_of_ble_eq_true rfl⟩ tg_891 tg_893 tg_22 (sc_0 hE) rfl rfl (Nat.le_of_ble_eq_true rfl) dX9_bites_2 ⟨Nat.le_refl 0, Nat.le_refl 0⟩ ?_
  refine G.iload_n C 2 dX9_bites_5 rfl rfl ?_
  refine G.iconst (v := (0 : Int32)) C dX9_bites_6 (by decide) ?_
  refine G.iconst (v := (1 : Int32)) C dX9_bites_7 (by decide) ?_
  obtain ⟨u_4, hv_3, h⟩ := bd_ex h
  refine G.callS (rest := []) C (s_X9_needRange  hv_3) ⟨tg_641, tg_90, ok_X9_needRange, Nat.le_of_ble_eq_true rfl, Nat.le_of_ble_eq_true rfl⟩ tg_639 tg_640 rfl (Nat.le_of_ble_eq_true rfl) dX9_bites_8 ⟨Nat.le_refl 0, Nat.le_refl 0⟩ ?_
  refine G.aload_n C 0 dX9_bites_11 rfl rfl ?_
  refine G.iload_n C 1 dX9_bites_12 rfl rfl ?_
  obtain ⟨v_7, M_6, hv_5, h⟩ := bd2_ex h
  refine G.callV (rest := []) C (s_X9_linesOf_0 hE  hv_5) ⟨tg_1024, tg_90, ok_X9_linesOf, Nat.le_of_ble_eq_true rfl, Nat.le_of_ble_eq_true rfl⟩ tg_1021 tg_1023 tg_26 (sc_0 hE) rfl rfl (Nat.le_of_ble_eq_true rfl) dX9_bites_13 ⟨Nat.le_refl 0, Nat.le_refl 0⟩ ?_
  obtain ⟨v_9, hv_8, h⟩ := bd_ex h
  refine G.callS (rest := []) C (s_J13_bitCount_95d88  hv_8) ⟨tg_457, tg_102, ok_J13_bitCount_95d88, Nat.le_of_ble_eq_true rfl, Nat.le_of_ble_eq_true rfl⟩ tg_919 tg_456 rfl (Nat.le_of_ble_eq_true rfl) dX9_bites_16 ⟨Nat.le_refl 0, Nat.le_refl 0⟩ ?_
  cases h
  exact G.iret C hr dX9_bites_19
def f_X9_bites_0 (x1 : Int32) (x2 : Int32) (M : Mm) : Option (Int32 × Mm) := bb_X9_bites_0_0 x1 x2 M
theorem s_X9_bites_0 {l : Launch} {E : Ev} {x1 : Int32} {x2 : Int32} {M : Mm} {v : Int32} {M' : Mm} (hE : Has shC (eH E)) (h : f_X9_bites_0 x1 x2 M = some (v, M')) : MetA l yX9_bites cX9_bites 3 (some .int) 26 E [.ref (eA E 0), .int x1, .int x2] M (some (.int v)) M' := by
  refine MetA.of (by decide +kernel) (Nat.le_of_ble_eq_true rfl) ?_
  intro p e s m below meth c C hr hnm
  exact G.sub [0, 1, 2] rfl (gb_X9_bites_0_0 hE C hr  h)
def bb_X9_lines_0_0 (x1 : Int32) (M : Mm) : Option (Int64 × Mm) := bd (f_X9_needLetter_0 x1 M) fun _ => bd2 (f_X9_linesOf_0 x1 M) fun v_5 M_4 => some (v_5, M_4)
set_option maxHeartbeats 4000000 in
set_option maxRecDepth 100000 in
theorem gb_X9_lines_0_0  {x1 : Int32} {M : Mm} {v : Int64} {M' : Mm} (hE : Has shC (eH E)) (C : Cx RX9 cX9_lines 2 p (rmD 26) s m args meth c E) (hr : meth.sig.returnType = (some .long)) (h : bb_X9_lines_0_0 x1 M = some (v, M')) : G p l e (rmD 26) s m args below meth c E 2 0 0 (QR below args s E 0 0 (some (.long v)) M') 0 [(0, .ref (eA E 0)), (1, .int x1)] [] M := by
  unfold bb_X9_lines_0_0 at h
  refine G.aload_n C 0 dX9_lines_0 rfl rfl ?_
  refine G.iload_n C 1 dX9_lines_1 rfl rfl ?_
  obtain ⟨u_2, hv_1, h⟩ := bd_ex h
  refine G.callV (rest := []) C (s_X9_needLetter_0 hE  hv_1) ⟨tg_894, tg_90, ok_X9_needLetter, Nat.le_of_ble_eq_true rfl, Nat.le_of_ble_eq_true rfl⟩ tg_891 tg_893 tg_22 (sc_0 hE) rfl rfl (Nat.le_of_ble_eq_true rfl) dX9_lines_2 ⟨Nat.le_refl 0, Nat.le_refl 0⟩ ?_
  refine G.aload_n C 0 dX9_lines_5 rfl rfl ?_
  refine G.iload_n C 1 dX9_lines_6 rfl rfl ?_
  obtain ⟨v_5, M_4, hv_3, h⟩ := bd2_ex h
  refine G.callV (rest := []) C (s_X9_linesOf_0 hE  hv_3) ⟨tg_1024, tg_90, ok_X9_linesOf, Nat.le_of_ble_eq_true rfl, Nat.le_of_ble_eq_true rfl⟩ tg_1021 tg_1023 tg_26 (sc_0 hE) rfl rfl (Nat.le_of_ble_eq_true rfl) dX9_lines_7 ⟨Nat.le_refl 0, Nat.le_refl 0⟩ ?_
  cases h
  exact G.lret C hr dX9_lines_10
def f_X9_lines_0 (x1 : Int32) (M : Mm) : Option (Int64 × Mm) := bb_X9_lines_0_0 x1 M
theorem s_X9_lines_0 {l : Launch} {E : Ev} {x1 : Int32} {M : Mm} {v : Int64} {M' : Mm} (hE : Has shC (eH E)) (h : f_X9_lines_0 x1 M = some (v, M')) : MetA l yX9_lines cX9_lines 2 (some .long) 26 E [.ref (eA E 0), .int x1] M (some (.long v)) M' := by
  refine MetA.of (by decide +kernel) (Nat.le_of_ble_eq_true rfl) ?_
  intro p e s m below meth c C hr hnm
  exact G.sub [0, 1] rfl (gb_X9_lines_0_0 hE C hr  h)
def bb_X9_begin_0_0 (x1 : Int32) (M : Mm) : Option Mm := bd (f_X9_needLetter_0 x1 M) fun _ => bd (f_X0_takePunch_50 x1 M) fun M_4 => some M_4
set_option maxHeartbeats 4000000 in
set_option maxRecDepth 100000 in
theorem gb_X9_begin_0_0  {x1 : Int32} {M : Mm} {M' : Mm} (hE : Has shC (eH E)) (C : Cx RX9 cX9_begin 2 p (rmD 2) s m args meth c E) (hr : meth.sig.returnType = none) (h : bb_X9_begin_0_0 x1 M = some M') : G p l e (rmD 2) s m args below meth c E 2 0 0 (QR below args s E 0 0 none M') 0 [(0, .ref (eA E 0)), (1, .int x1)] [] M := by
  unfold bb_X9_begin_0_0 at h
  refine G.aload_n C 0 dX9_begin_0 rfl rfl ?_
  refine G.iload_n C 1 dX9_begin_1 rfl rfl ?_
  obtain ⟨u_2, hv_1, h⟩ := bd_ex h
  refine G.callV (rest := []) C (s_X9_needLetter_0 hE  hv_1) ⟨tg_894, tg_90, ok_X9_needLetter, Nat.le_of_ble_eq_true rfl, Nat.le_of_ble_eq_true rfl⟩ tg_891 tg_893 tg_22 (sc_0 hE) rfl rfl (Nat.le_of_ble_eq_true rfl) dX9_begin_2 ⟨Nat.le_refl 0, Nat.le_refl 0⟩ ?_
  refine G.aload_n C 0 dX9_begin_5 rfl rfl ?_
  refine G.getR (k := 8) C k_X9 (sc_0 hE) rfl (by decide) tg_487 dX9_begin_6 ?_
  refine G.iload_n C 1 dX9_begin_9 rfl rfl ?_
  obtain ⟨M_4, hv_3, h⟩ := bd_ex h
  refine G.callV (rest := []) C (s_X0_takePunch_50 hE  hv_3) ⟨tg_1047, tg_98, ok_X0_takePunch, Nat.le_of_ble_eq_true rfl, Nat.le_of_ble_eq_true rfl⟩ tg_1044 tg_1045 tg_1046 (sc_50 hE) rfl rfl (Nat.le_of_ble_eq_true rfl) dX9_begin_10 ⟨Nat.le_refl 0, Nat.le_refl 0⟩ ?_
  cases h
  exact G.vret C hr dX9_begin_13
def f_X9_begin_0 (x1 : Int32) (M : Mm) : Option Mm := bb_X9_begin_0_0 x1 M
theorem s_X9_begin_0 {l : Launch} {E : Ev} {x1 : Int32} {M : Mm} {M' : Mm} (hE : Has shC (eH E)) (h : f_X9_begin_0 x1 M = some M') : MetA l yX9_begin cX9_begin 2 none 2 E [.ref (eA E 0), .int x1] M none M' := by
  refine MetA.of (by decide +kernel) (Nat.le_of_ble_eq_true rfl) ?_
  intro p e s m below meth c C hr hnm
  exact G.sub [0, 1] rfl (gb_X9_begin_0_0 hE C hr  h)
def bb_X9_blow_0_0 (x1 : Int32) (M : Mm) : Option (Int32 × Mm) := bd (f_X9_needHollow_0 x1 M) fun _ => bd (f_X9_hasPunch_0 M) fun v_4 => if v_4 = 0 then (some ((-1 : Int32), M)) else (gd (inb x1 16) (if (M.1 18 (ix x1)) = (M.1 50 0) then (gd (inb x1 16) (bd2 (f_X0_strike_50 (M.2 17 (ix x1)) M) fun v_9 M_8 => some (v_9, M_8))) else (some ((-2 : Int32), M))))
set_option maxHeartbeats 4000000 in
set_option maxRecDepth 100000 in
theorem gb_X9_blow_0_0  {x1 : Int32} {M : Mm} {v : Int32} {M' : Mm} (hE : Has shC (eH E)) (C : Cx RX9 cX9_blow 2 p (rmD 6) s m args meth c E) (hr : meth.sig.returnType = (some .int)) (h : bb_X9_blow_0_0 x1 M = some (v, M')) : G p l e (rmD 6) s m args below meth c E 2 0 0 (QR below args s E 0 0 (some (.int v)) M') 0 [(0, .ref (eA E 0)), (1, .int x1)] [] M := by
  unfold bb_X9_blow_0_0 at h
  refine G.aload_n C 0 dX9_blow_0 rfl rfl ?_
  refine G.iload_n C 1 dX9_blow_1 rfl rfl ?_
  obtain ⟨u_2, hv_1, h⟩ := bd_ex h
  refine G.callV (rest := []) C (s_X9_needHollow_0 hE  hv_1) ⟨tg_941, tg_90, ok_X9_needHollow, Nat.le_of_ble_eq_true rfl, Nat.le_of_ble_eq_true rfl⟩ tg_938 tg_940 tg_23 (sc_0 hE) rfl rfl (Nat.le_of_ble_eq_true rfl) dX9_blow_2 ⟨Nat.le_refl 0, Nat.le_refl 0⟩ ?_
  refine G.aload_n C 0 dX9_blow_5 rfl rfl ?_
  obtain ⟨v_4, hv_3, h⟩ := bd_ex h
  refine G.callV (rest := []) C (s_X9_hasPunch_0 hE  hv_3) ⟨tg_537, tg_90, ok_X9_hasPunch, Nat.le_of_ble_eq_true rfl, Nat.le_of_ble_eq_true rfl⟩ tg_534 tg_536 tg_0 (sc_0 hE) rfl rfl (Nat.le_of_ble_eq_true rfl) dX9_blow_6 ⟨Nat.le_refl 0, Nat.le_refl 0⟩ ?_
  refine G.if_ne (tgt := 14) C dX9_blow_9 (by decide) (fun hc => ?_) (fun hc => ?_)
  · have h := it_f h hc
    refine G.aload_n C 0 dX9_blow_14 rfl rfl ?_
    refine G.getR (k := 1) C k_X9 (sc_0 hE) rfl (by decide) tg_480 dX9_blow_15 ?_
    refine G.getRN (k := 6) C k_X7 (sc_11 hE) rfl (by decide) tw_156 dX9_blow_18 ?_
    refine G.iload_n C 1 dX9_blow_21 rfl rfl ?_
    obtain ⟨hg_5, h⟩ := gd_ex h
    refine G.aI (j := ix x1) C (sc_18 hE) hg_5 rfl dX9_blow_22 ?_
    refine G.aload_n C 0 dX9_blow_23 rfl rfl ?_
    refine G.getR (k := 8) C k_X9 (sc_0 hE) rfl (by decide) tg_487 dX9_blow_24 ?_
    refine G.getIN (k := 0) C k_X0 (sc_50 hE) rfl (by decide) tw_369 dX9_blow_27 ?_
    refine G.icmp_eq (tgt := 36) C dX9_blow_30 (by decide) (fun hc => ?_) (fun hc => ?_)
    · have h := it_t h hc
      refine G.aload_n C 0 dX9_blow_36 rfl rfl ?_
      refine G.getR (k := 8) C k_X9 (sc_0 hE) rfl (by decide) tg_487 dX9_blow_37 ?_
      refine G.aload_n C 0 dX9_blow_40 rfl rfl ?_
      refine G.getR (k := 1) C k_X9 (sc_0 hE) rfl (by decide) tg_480 dX9_blow_41 ?_
      refine G.getRN (k := 5) C k_X7 (sc_11 hE) rfl (by decide) tw_151 dX9_blow_44 ?_
      refine G.iload_n C 1 dX9_blow_47 rfl rfl ?_
      obtain ⟨hg_6, h⟩ := gd_ex h
      refine G.aJ (j := ix x1) C (sc_17 hE) hg_6 rfl dX9_blow_48 ?_
      obtain ⟨v_9, M_8, hv_7, h⟩ := bd2_ex h
      refine G.callV (rest := []) C (s_X0_strike_50 hE  hv_7) ⟨tg_1058, tg_98, ok_X0_strike, Nat.le_of_ble_eq_true rfl, Nat.le_of_ble_eq_true rfl⟩ tg_1055 tg_1056 tg_1057 (sc_50 hE) rfl rfl (Nat.le_of_ble_eq_true rfl) dX9_blow_49 ⟨Nat.le_refl 0, Nat.le_refl 0⟩ ?_
      cases h
      exact G.iret C hr dX9_blow_52
    · have h := it_f h hc
      refine G.bipush (v := (-2 : Int32)) C dX9_blow_33 (by decide) ?_
      cases h
      exact G.iret C hr dX9_blow_35
  · have h := it_t h hc
    refine G.iconst (v := (-1 : Int32)) C dX9_blow_12 (by decide) ?_
    cases h
    exact G.iret C hr dX9_blow_13
def f_X9_blow_0 (x1 : Int32) (M : Mm) : Option (Int32 × Mm) := bb_X9_blow_0_0 x1 M
theorem s_X9_blow_0 {l : Launch} {E : Ev} {x1 : Int32} {M : Mm} {v : Int32} {M' : Mm} (hE : Has shC (eH E)) (h : f_X9_blow_0 x1 M = some (v, M')) : MetA l yX9_blow cX9_blow 2 (some .int) 6 E [.ref (eA E 0), .int x1] M (some (.int v)) M' := by
  refine MetA.of (by decide +kernel) (Nat.le_of_ble_eq_true rfl) ?_
  intro p e s m below meth c C hr hnm
  exact G.sub [0, 1] rfl (gb_X9_blow_0_0 hE C hr  h)
def bb_X9_needFile_0 (x0 : Int32) (x1 : Int32) (x2 : Int32) : Option Unit := bd (f_X9_needRange x0 (0 : Int32) (3 : Int32)) fun _ => bd (f_X9_needRange x1 (0 : Int32) (7 : Int32)) fun _ => bd (f_X9_needRange x2 (1 : Int32) (8 : Int32)) fun _ => some ()
set_option maxHeartbeats 4000000 in
set_option maxRecDepth 100000 in
theorem gb_X9_needFile_0 {M : Mm}  {x0 : Int32} {x1 : Int32} {x2 : Int32}  (C : Cx RX9 cX9_needFile 3 p (rmD 2) s m args meth c E) (hr : meth.sig.returnType = none) (h : bb_X9_needFile_0 x0 x1 x2 = some ()) : G p l e (rmD 2) s m args below meth c E 3 0 0 (QR below args s E 0 0 none M) 0 [(0, .int x0), (1, .int x1), (2, .int x2)] [] M := by
  unfold bb_X9_needFile_0 at h
  refine G.iload_n C 0 dX9_needFile_0 rfl rfl ?_
  refine G.iconst (v := (0 : Int32)) C dX9_needFile_1 (by decide) ?_
  refine G.iconst (v := (3 : Int32)) C dX9_needFile_2 (by decide) ?_
  obtain ⟨u_2, hv_1, h⟩ := bd_ex h
  refine G.callS (rest := []) C (s_X9_needRange  hv_1) ⟨tg_641, tg_90, ok_X9_needRange, Nat.le_of_ble_eq_true rfl, Nat.le_of_ble_eq_true rfl⟩ tg_639 tg_640 rfl (Nat.le_of_ble_eq_true rfl) dX9_needFile_3 ⟨Nat.le_refl 0, Nat.le_refl 0⟩ ?_
  refine G.iload_n C 1 dX9_needFile_6 rfl rfl ?_
  refine G.iconst (v := (0 : Int32)) C dX9_needFile_7 (by decide) ?_
  refine G.bipush (v := (7 : Int32)) C dX9_needFile_8 (by decide) ?_
  obtain ⟨u_4, hv_3, h⟩ := bd_ex h
  refine G.callS (rest := []) C (s_X9_needRange  hv_3) ⟨tg_641, tg_90, ok_X9_needRange, Nat.le_of_ble_eq_true rfl, Nat.le_of_ble_eq_true rfl⟩ tg_639 tg_640 rfl (Nat.le_of_ble_eq_true rfl) dX9_needFile_10 ⟨Nat.le_refl 0, Nat.le_refl 0⟩ ?_
  refine G.iload_n C 2 dX9_needFile_13 rfl rfl ?_
  refine G.iconst (v := (1 : Int32)) C dX9_needFile_14 (by decide) ?_
  refine G.bipush (v := (8 : Int32)) C dX9_needFile_15 (by decide) ?_
  obtain ⟨u_6, hv_5, h⟩ := bd_ex h
  refine G.callS (rest := []) C (s_X9_needRange  hv_5) ⟨tg_641, tg_90, ok_X9_needRange, Nat.le_of_ble_eq_true rfl, Nat.le_of_ble_eq_true rfl⟩ tg_639 tg_640 rfl (Nat.le_of_ble_eq_true rfl) dX9_needFile_17 ⟨Nat.le_refl 0, Nat.le_refl 0⟩ ?_
  cases h
  exact G.vret C hr dX9_needFile_20
def f_X9_needFile (x0 : Int32) (x1 : Int32) (x2 : Int32) : Option Unit := bb_X9_needFile_0 x0 x1 x2
theorem s_X9_needFile {l : Launch} {E : Ev} {x0 : Int32} {x1 : Int32} {x2 : Int32} {M : Mm}  (h : f_X9_needFile x0 x1 x2 = some ()) : MetA l yX9_needFile cX9_needFile 3 none 2 E [.int x0, .int x1, .int x2] M none M := by
  refine MetA.of (by decide +kernel) (Nat.le_of_ble_eq_true rfl) ?_
  intro p e s m below meth c C hr hnm
  exact G.sub [0, 1, 2] rfl (gb_X9_needFile_0 C hr  h)
def bb_X9_file_0_0 (x1 : Int32) (x2 : Int32) (x3 : Int32) (M : Mm) : Option (Int32 × Mm) := bd (f_X9_needFile x1 x2 x3) fun _ => bd (f_X9_hasPunch_0 M) fun v_4 => if v_4 = 0 then (some ((-1 : Int32), M)) else (bd (f_X4_filed x1 x2 x3) fun v_6 => bd2 (f_X0_take_50 v_6 M) fun v_9 M_8 => some (v_9, M_8))
set_option maxHeartbeats 4000000 in
set_option maxRecDepth 100000 in
theorem gb_X9_file_0_0  {x1 : Int32} {x2 : Int32} {x3 : Int32} {M : Mm} {v : Int32} {M' : Mm} (hE : Has shC (eH E)) (C : Cx RX9 cX9_file 4 p (rmD 3) s m args meth c E) (hr : meth.sig.returnType = (some .int)) (h : bb_X9_file_0_0 x1 x2 x3 M = some (v, M')) : G p l e (rmD 3) s m args below meth c E 4 0 0 (QR below args s E 0 0 (some (.int v)) M') 0 [(0, .ref (eA E 0)), (1, .int x1), (2, .int x2), (3, .int x3)] [] M := by
  unfold bb_X9_file_0_0 at h
  refine G.iload_n C 1 dX9_file_0 rfl rfl ?_
  refine G.iload_n C 2 dX9_file_1 rfl rfl ?_
  refine G.iload_n C 3 dX9_file_2 rfl rfl ?_
  obtain ⟨u_2, hv_1, h⟩ := bd_ex h
  refine G.callS (rest := []) C (s_X9_needFile  hv_1) ⟨tg_1076, tg_90, ok_X9_needFile, Nat.le_of_ble_eq_true rfl, Nat.le_of_ble_eq_true rfl⟩ tg_1074 tg_1075 rfl (Nat.le_of_ble_eq_true rfl) dX9_file_3 ⟨Nat.le_refl 0, Nat.le_refl 0⟩ ?_
  refine G.aload_n C 0 dX9_file_6 rfl rfl ?_
  obtain ⟨v_4, hv_3, h⟩ := bd_ex h
  refine G.callV (rest := []) C (s_X9_hasPunch_0 hE  hv_3) ⟨tg_537, tg_90, ok_X9_hasPunch, Nat.le_of_ble_eq_true rfl, Nat.le_of_ble_eq_true rfl⟩ tg_534 tg_536 tg_0 (sc_0 hE) rfl rfl (Nat.le_of_ble_eq_true rfl) dX9_file_7 ⟨Nat.le_refl 0, Nat.le_refl 0⟩ ?_
  refine G.if_ne (tgt := 15) C dX9_file_10 (by decide) (fun hc => ?_) (fun hc => ?_)
  · have h := it_f h hc
    refine G.aload_n C 0 dX9_file_15 rfl rfl ?_
    refine G.getR (k := 8) C k_X9 (sc_0 hE) rfl (by decide) tg_487 dX9_file_16 ?_
    refine G.iload_n C 1 dX9_file_19 rfl rfl ?_
    refine G.iload_n C 2 dX9_file_20 rfl rfl ?_
    refine G.iload_n C 3 dX9_file_21 rfl rfl ?_
    obtain ⟨v_6, hv_5, h⟩ := bd_ex h
    refine G.callS (rest := [.ref (eA E 50)]) C (s_X4_filed  hv_5) ⟨tg_1079, tg_101, ok_X4_filed, Nat.le_of_ble_eq_true rfl, Nat.le_of_ble_eq_true rfl⟩ tg_1077 tg_1078 rfl (Nat.le_of_ble_eq_true rfl) dX9_file_22 ⟨Nat.le_refl 0, Nat.le_refl 0⟩ ?_
    obtain ⟨v_9, M_8, hv_7, h⟩ := bd2_ex h
    refine G.callV (rest := []) C (s_X0_take_50 hE  hv_7) ⟨tg_1065, tg_98, ok_X0_take, Nat.le_of_ble_eq_true rfl, Nat.le_of_ble_eq_true rfl⟩ tg_1080 tg_1063 tg_1064 (sc_50 hE) rfl rfl (Nat.le_of_ble_eq_true rfl) dX9_file_25 ⟨Nat.le_refl 0, Nat.le_refl 0⟩ ?_
    cases h
    exact G.iret C hr dX9_file_28
  · have h := it_t h hc
    refine G.iconst (v := (-1 : Int32)) C dX9_file_13 (by decide) ?_
    cases h
    exact G.iret C hr dX9_file_14
def f_X9_file_0 (x1 : Int32) (x2 : Int32) (x3 : Int32) (M : Mm) : Option (Int32 × Mm) := bb_X9_file_0_0 x1 x2 x3 M
theorem s_X9_file_0 {l : Launch} {E : Ev} {x1 : Int32} {x2 : Int32} {x3 : Int32} {M : Mm} {v : Int32} {M' : Mm} (hE : Has shC (eH E)) (h : f_X9_file_0 x1 x2 x3 M = some (v, M')) : MetA l yX9_file cX9_file 4 (some .int) 3 E [.ref (eA E 0), .int x1, .int x2, .int x3] M (some (.int v)) M' := by
  refine MetA.of (by decide +kernel) (Nat.le_of_ble_eq_true rfl) ?_
  intro p e s m below meth c C hr hnm
  exact G.sub [0, 1, 2, 3] rfl (gb_X9_file_0_0 hE C hr  h)
def bb_X9_asNumber_0 (x0 : Int32) : Option Int32 := if x0 = 0 then (some (0 : Int32)) else (some (1 : Int32))
set_option maxHeartbeats 4000000 in
set_option maxRecDepth 100000 in
theorem gb_X9_asNumber_0 {M : Mm}  {x0 : Int32} {v : Int32} (C : Cx RX9 cX9_asNumber 1 p (rmD 1) s m args meth c E) (hr : meth.sig.returnType = (some .int)) (h : bb_X9_asNumber_0 x0 = some v) : G p l e (rmD 1) s m args below meth c E 1 0 0 (QR below args s E 0 0 (some (.int v)) M) 0 [(0, .int x0)] [] M := by
  unfold bb_X9_asNumber_0 at h
  refine G.iload_n C 0 dX9_asNumber_0 rfl rfl ?_
  refine G.if_eq (tgt := 8) C dX9_asNumber_1 (by decide) (fun hc => ?_) (fun hc => ?_)
  · have h := it_t h hc
    refine G.iconst (v := (0 : Int32)) C dX9_asNumber_8 (by decide) ?_
    cases h
    exact G.iret C hr dX9_asNumber_9
  · have h := it_f h hc
    refine G.iconst (v := (1 : Int32)) C dX9_asNumber_4 (by decide) ?_
    refine G.goto (tgt := 9) C dX9_asNumber_5 (by decide) ?_
    cases h
    exact G.iret C hr dX9_asNumber_9
def f_X9_asNumber (x0 : Int32) : Option Int32 := bb_X9_asNumber_0 x0
theorem s_X9_asNumber {l : Launch} {E : Ev} {x0 : Int32} {M : Mm} {v : Int32} (h : f_X9_asNumber x0 = some v) : MetA l yX9_asNumber cX9_asNumber 1 (some .int) 1 E [.int x0] M (some (.int v)) M := by
  refine MetA.of (by decide +kernel) (Nat.le_of_ble_eq_true rfl) ?_
  intro p e s m below meth c C hr hnm
  exact G.sub [0] rfl (gb_X9_asNumber_0 C hr  h)
def bb_X9_punch_0_0 (x1 : Int32) (M : Mm) : Option Int32 := bd (f_X9_needRange x1 (0 : Int32) (2 : Int32)) fun _ => bd (f_X9_hasPunch_0 M) fun v_4 => if v_4 = 0 then (some (-1 : Int32)) else (gd (inb (M.1 50 0) 10) (ltv (M.2 12 (ix (M.1 50 0))) fun x2_6 => if x1 = 0 then (if ((M.2 50 1) &&& x2_6) = (0 : Int64) then (bd (f_X9_asNumber (1 : Int32)) fun v_16 => some v_16) else (bd (f_X9_asNumber (0 : Int32)) fun v_14 => some v_14)) else (if x1 = (1 : Int32) then (if (M.2 50 1) = (x2_6 ^^^ (-1 : Int64)) then (bd (f_X9_asNumber (1 : Int32)) fun v_12 => some v_12) else (bd (f_X9_asNumber (0 : Int32)) fun v_10 => some v_10)) else (bd (f_X9_asNumber (M.1 50 2)) fun v_8 => some v_8))))
set_option maxHeartbeats 4000000 in
set_option maxRecDepth 100000 in
theorem gb_X9_punch_0_0  {x1 : Int32} {M : Mm} {v : Int32} (hE : Has shC (eH E)) (C : Cx RX9 cX9_punch 4 p (rmD 2) s m args meth c E) (hr : meth.sig.returnType = (some .int)) (h : bb_X9_punch_0_0 x1 M = some v) : G p l e (rmD 2) s m args below meth c E 4 0 0 (QR below args s E 0 0 (some (.int v)) M) 0 [(0, .ref (eA E 0)), (1, .int x1)] [] M := by
  unfold bb_X9_punch_0_0 at h
  refine G.iload_n C 1 dX9_punch_0 rfl rfl ?_
  refine G.iconst (v := (0 : Int32)) C dX9_punch_1 (by decide) ?_
  refine G.iconst (v := (2 : Int32)) C dX9_punch_2 (by decide) ?_
  obtain ⟨u_2, hv_1, h⟩ := bd_ex h
  refine G.callS (rest := []) C (s_X9_needRange  hv_1) ⟨tg_641, tg_90, ok_X9_needRange, Nat.le_of_ble_eq_true rfl, Nat.le_of_ble_eq_true rfl⟩ tg_639 tg_640 rfl (Nat.le_of_ble_eq_true rfl) dX9_punch_3 ⟨Nat.le_refl 0, Nat.le_refl 0⟩ ?_
  refine G.aload_n C 0 dX9_punch_6 rfl rfl ?_
  obtain ⟨v_4, hv_3, h⟩ := bd_ex h
  refine G.callV (rest := []) C (s_X9_hasPunch_0 hE  hv_3) ⟨tg_537, tg_90, ok_X9_hasPunch, Nat.le_of_ble_eq_true rfl, Nat.le_of_ble_eq_true rfl⟩ tg_534 tg_536 tg_0 (sc_0 hE) rfl rfl (Nat.le_of_ble_eq_true rfl) dX9_punch_7 ⟨Nat.le_refl 0, Nat.le_refl 0⟩ ?_
  refine G.if_ne (tgt := 15) C dX9_punch_10 (by decide) (fun hc => ?_) (fun hc => ?_)
  · have h := it_f h hc
    refine G.aload_n C 0 dX9_punch_15 rfl rfl ?_
    refine G.getR (k := 1) C k_X9 (sc_0 hE) rfl (by decide) tg_480 dX9_punch_16 ?_
    refine G.getRN (k := 0) C k_X7 (sc_11 hE) rfl (by decide) tw_137 dX9_punch_19 ?_
    refine G.aload_n C 0 dX9_punch_22 rfl rfl ?_
    refine G.getR (k := 8) C k_X9 (sc_0 hE) rfl (by decide) tg_487 dX9_punch_23 ?_
    refine G.getIN (k := 0) C k_X0 (sc_50 hE) rfl (by decide) tw_369 dX9_punch_26 ?_
    obtain ⟨hg_5, h⟩ := gd_ex h
    refine G.aJ (j := ix (M.1 50 0)) C (sc_12 hE) hg_5 rfl dX9_punch_29 ?_
    obtain ⟨x2_6, ex2_6, h⟩ := ltv_ex h
    refine G.lstore_n (L' := [(2, .long x2_6), (0, .ref (eA E 0)), (1, .int x1)]) C dX9_punch_30 rfl ex2_6 (by decide) rfl ?_
    refine G.iload_n C 2 dX9_punch_31 rfl rfl ?_
    refine G.if_ne (tgt := 58) C dX9_punch_32 (by decide) (fun hc => ?_) (fun hc => ?_)
    · have h := it_f h hc
      refine G.iload_n C 2 dX9_punch_58 rfl rfl ?_
      refine G.iconst (v := (1 : Int32)) C dX9_punch_59 (by decide) ?_
      refine G.icmp_ne (tgt := 87) C dX9_punch_60 (by decide) (fun hc => ?_) (fun hc => ?_)
      · have h := it_f h hc
        refine G.aload_n C 1 dX9_punch_87 rfl rfl ?_
        refine G.getR (k := 8) C k_X9 (sc_0 hE) rfl (by decide) tg_487 dX9_punch_88 ?_
        refine G.getZN (k := 2) C k_X0 (sc_50 hE) rfl (by decide) tw_373 dX9_punch_91 ?_
        obtain ⟨v_8, hv_7, h⟩ := bd_ex h
        refine G.callS (rest := []) C (s_X9_asNumber  hv_7) ⟨tg_1090, tg_90, ok_X9_asNumber, Nat.le_of_ble_eq_true rfl, Nat.le_of_ble_eq_true rfl⟩ tg_1088 tg_1089 rfl (Nat.le_of_ble_eq_true rfl) dX9_punch_94 ⟨Nat.le_refl 0, Nat.le_refl 0⟩ ?_
        cases h
        exact G.iret C hr dX9_punch_97
      · have h := it_t h hc
        refine G.aload_n C 1 dX9_punch_63 rfl rfl ?_
        refine G.getR (k := 8) C k_X9 (sc_0 hE) rfl (by decide) tg_487 dX9_punch_64 ?_
        refine G.getJN (k := 1) C k_X0 (sc_50 hE) rfl (by decide) tw_371 dX9_punch_67 ?_
        refine G.lload_n C 0 dX9_punch_70 rfl rfl ?_
        refine G.ldc2 C tg_538 dX9_punch_71 ?_
        refine G.lxor C dX9_punch_74 ?_
        refine G.lcmp C dX9_punch_75 (G.if_ne (tgt := 83) C dX9_punch_76 (by decide) (fun hc => ?_) (fun hc => ?_))
        · have h := it_f h (lgc_ne.mp hc)
          refine G.iconst (v := (0 : Int32)) C dX9_punch_83 (by decide) ?_
          refine G.goto (tgt := 94) C dX9_punch_84 (by decide) ?_
          obtain ⟨v_10, hv_9, h⟩ := bd_ex h
          refine G.callS (rest := []) C (s_X9_asNumber  hv_9) ⟨tg_1090, tg_90, ok_X9_asNumber, Nat.le_of_ble_eq_true rfl, Nat.le_of_ble_eq_true rfl⟩ tg_1088 tg_1089 rfl (Nat.le_of_ble_eq_true rfl) dX9_punch_94 ⟨Nat.le_refl 0, Nat.le_refl 0⟩ ?_
          cases h
          exact G.iret C hr dX9_punch_97
        · have h := it_t h (lgc_eq.mp hc)
          refine G.iconst (v := (1 : Int32)) C dX9_punch_79 (by decide) ?_
          refine G.goto (tgt := 94) C dX9_punch_80 (by decide) ?_
          obtain ⟨v_12, hv_11, h⟩ := bd_ex h
          refine G.callS (rest := []) C (s_X9_asNumber  hv_11) ⟨tg_1090, tg_90, ok_X9_asNumber, Nat.le_of_ble_eq_true rfl, Nat.le_of_ble_eq_true rfl⟩ tg_1088 tg_1089 rfl (Nat.le_of_ble_eq_true rfl) dX9_punch_94 ⟨Nat.le_refl 0, Nat.le_refl 0⟩ ?_
          cases h
          exact G.iret C hr dX9_punch_97
    · have h := it_t h hc
      refine G.aload_n C 1 dX9_punch_35 rfl rfl ?_
      refine G.getR (k := 8) C k_X9 (sc_0 hE) rfl (by decide) tg_487 dX9_punch_36 ?_
      refine G.getJN (k := 1) C k_X0 (sc_50 hE) rfl (by decide) tw_371 dX9_punch_39 ?_
      refine G.lload_n C 0 dX9_punch_42 rfl rfl ?_
      refine G.land C dX9_punch_43 ?_
      refine G.lconst (v := (0 : Int64)) C dX9_punch_44 (by decide) ?_
      refine G.lcmp C dX9_punch_45 (G.if_ne (tgt := 53) C dX9_punch_46 (by decide) (fun hc => ?_) (fun hc => ?_))
      · have h := it_f h (lgc_ne.mp hc)
        refine G.iconst (v := (0 : Int32)) C dX9_punch_53 (by decide) ?_
        obtain ⟨v_14, hv_13, h⟩ := bd_ex h
        refine G.callS (rest := []) C (s_X9_asNumber  hv_13) ⟨tg_1090, tg_90, ok_X9_asNumber, Nat.le_of_ble_eq_true rfl, Nat.le_of_ble_eq_true rfl⟩ tg_1088 tg_1089 rfl (Nat.le_of_ble_eq_true rfl) dX9_punch_54 ⟨Nat.le_refl 0, Nat.le_refl 0⟩ ?_
        cases h
        exact G.iret C hr dX9_punch_57
      · have h := it_t h (lgc_eq.mp hc)
        refine G.iconst (v := (1 : Int32)) C dX9_punch_49 (by decide) ?_
        refine G.goto (tgt := 54) C dX9_punch_50 (by decide) ?_
        obtain ⟨v_16, hv_15, h⟩ := bd_ex h
        refine G.callS (rest := []) C (s_X9_asNumber  hv_15) ⟨tg_1090, tg_90, ok_X9_asNumber, Nat.le_of_ble_eq_true rfl, Nat.le_of_ble_eq_true rfl⟩ tg_1088 tg_1089 rfl (Nat.le_of_ble_eq_true rfl) dX9_punch_54 ⟨Nat.le_refl 0, Nat.le_refl 0⟩ ?_
        cases h
        exact G.iret C hr dX9_punch_57
  · have h := it_t h hc
    refine G.iconst (v := (-1 : Int32)) C dX9_punch_13 (by decide) ?_
    cases h
    exact G.iret C hr dX9_punch_14
def f_X9_punch_0 (x1 : Int32) (M : Mm) : Option Int32 := bb_X9_punch_0_0 x1 M
theorem s_X9_punch_0 {l : Launch} {E : Ev} {x1 : Int32} {M : Mm} {v : Int32} (hE : Has shC (eH E)) (h : f_X9_punch_0 x1 M = some v) : MetA l yX9_punch cX9_punch 4 (some .int) 2 E [.ref (eA E 0), .int x1] M (some (.int v)) M := by
  refine MetA.of (by decide +kernel) (Nat.le_of_ble_eq_true rfl) ?_
  intro p e s m below meth c C hr hnm
  exact G.sub [0, 1] rfl (gb_X9_punch_0_0 hE C hr  h)
def bb_X9_addBlow_0_0 (x1 : Int32) (M : Mm) : Option (Int32 × Mm) := bd (f_X9_needHollow_0 x1 M) fun _ => bd2 (f_X0_addAct_50 x1 (0 : Int64) M) fun v_5 M_4 => some (v_5, M_4)
set_option maxHeartbeats 4000000 in
set_option maxRecDepth 100000 in
theorem gb_X9_addBlow_0_0  {x1 : Int32} {M : Mm} {v : Int32} {M' : Mm} (hE : Has shC (eH E)) (C : Cx RX9 cX9_addBlow 2 p (rmD 2) s m args meth c E) (hr : meth.sig.returnType = (some .int)) (h : bb_X9_addBlow_0_0 x1 M = some (v, M')) : G p l e (rmD 2) s m args below meth c E 2 0 0 (QR below args s E 0 0 (some (.int v)) M') 0 [(0, .ref (eA E 0)), (1, .int x1)] [] M := by
  unfold bb_X9_addBlow_0_0 at h
  refine G.aload_n C 0 dX9_addBlow_0 rfl rfl ?_
  refine G.iload_n C 1 dX9_addBlow_1 rfl rfl ?_
  obtain ⟨u_2, hv_1, h⟩ := bd_ex h
  refine G.callV (rest := []) C (s_X9_needHollow_0 hE  hv_1) ⟨tg_941, tg_90, ok_X9_needHollow, Nat.le_of_ble_eq_true rfl, Nat.le_of_ble_eq_true rfl⟩ tg_938 tg_940 tg_23 (sc_0 hE) rfl rfl (Nat.le_of_ble_eq_true rfl) dX9_addBlow_2 ⟨Nat.le_refl 0, Nat.le_refl 0⟩ ?_
  refine G.aload_n C 0 dX9_addBlow_5 rfl rfl ?_
  refine G.getR (k := 8) C k_X9 (sc_0 hE) rfl (by decide) tg_487 dX9_addBlow_6 ?_
  refine G.iload_n C 1 dX9_addBlow_9 rfl rfl ?_
  refine G.lconst (v := (0 : Int64)) C dX9_addBlow_10 (by decide) ?_
  obtain ⟨v_5, M_4, hv_3, h⟩ := bd2_ex h
  refine G.callV (rest := []) C (s_X0_addAct_50 hE  hv_3) ⟨tg_1101, tg_98, ok_X0_addAct, Nat.le_of_ble_eq_true rfl, Nat.le_of_ble_eq_true rfl⟩ tg_1098 tg_1099 tg_1100 (sc_50 hE) rfl rfl (Nat.le_of_ble_eq_true rfl) dX9_addBlow_11 ⟨Nat.le_refl 0, Nat.le_refl 0⟩ ?_
  cases h
  exact G.iret C hr dX9_addBlow_14
def f_X9_addBlow_0 (x1 : Int32) (M : Mm) : Option (Int32 × Mm) := bb_X9_addBlow_0_0 x1 M
theorem s_X9_addBlow_0 {l : Launch} {E : Ev} {x1 : Int32} {M : Mm} {v : Int32} {M' : Mm} (hE : Has shC (eH E)) (h : f_X9_addBlow_0 x1 M = some (v, M')) : MetA l yX9_addBlow cX9_addBlow 2 (some .int) 2 E [.ref (eA E 0), .int x1] M (some (.int v)) M' := by
  refine MetA.of (by decide +kernel) (Nat.le_of_ble_eq_true rfl) ?_
  intro p e s m below meth c C hr hnm
  exact G.sub [0, 1] rfl (gb_X9_addBlow_0_0 hE C hr  h)
def bb_X9_addFile_0_0 (x1 : Int32) (x2 : Int32) (x3 : Int32) (M : Mm) : Option (Int32 × Mm) := bd (f_X9_needFile x1 x2 x3) fun _ => bd (f_X4_filed x1 x2 x3) fun v_4 => bd2 (f_X0_addAct_50 (-1 : Int32) v_4 M) fun v_7 M_6 => some (v_7, M_6)
set_option maxHeartbeats 4000000 in
set_option maxRecDepth 100000 in
theorem gb_X9_addFile_0_0  {x1 : Int32} {x2 : Int32} {x3 : Int32} {M : Mm} {v : Int32} {M' : Mm} (hE : Has shC (eH E)) (C : Cx RX9 cX9_addFile 4 p (rmD 3) s m args meth c E) (hr : meth.sig.returnType = (some .int)) (h : bb_X9_addFile_0_0 x1 x2 x3 M = some (v, M')) : G p l e (rmD 3) s m args below meth c E 4 0 0 (QR below args s E 0 0 (some (.int v)) M') 0 [(0, .ref (eA E 0)), (1, .int x1), (2, .int x2), (3, .int x3)] [] M := by
  unfold bb_X9_addFile_0_0 at h
  refine G.iload_n C 1 dX9_addFile_0 rfl rfl ?_
  refine G.iload_n C 2 dX9_addFile_1 rfl rfl ?_
  refine G.iload_n C 3 dX9_addFile_2 rfl rfl ?_
  obtain ⟨u_2, hv_1, h⟩ := bd_ex h
  refine G.callS (rest := []) C (s_X9_needFile  hv_1) ⟨tg_1076, tg_90, ok_X9_needFile, Nat.le_of_ble_eq_true rfl, Nat.le_of_ble_eq_true rfl⟩ tg_1074 tg_1075 rfl (Nat.le_of_ble_eq_true rfl) dX9_addFile_3 ⟨Nat.le_refl 0, Nat.le_refl 0⟩ ?_
  refine G.aload_n C 0 dX9_addFile_6 rfl rfl ?_
  refine G.getR (k := 8) C k_X9 (sc_0 hE) rfl (by decide) tg_487 dX9_addFile_7 ?_
  refine G.iconst (v := (-1 : Int32)) C dX9_addFile_10 (by decide) ?_
  refine G.iload_n C 1 dX9_addFile_11 rfl rfl ?_
  refine G.iload_n C 2 dX9_addFile_12 rfl rfl ?_
  refine G.iload_n C 3 dX9_addFile_13 rfl rfl ?_
  obtain ⟨v_4, hv_3, h⟩ := bd_ex h
  refine G.callS (rest := [.int (-1 : Int32), .ref (eA E 50)]) C (s_X4_filed  hv_3) ⟨tg_1079, tg_101, ok_X4_filed, Nat.le_of_ble_eq_true rfl, Nat.le_of_ble_eq_true rfl⟩ tg_1077 tg_1078 rfl (Nat.le_of_ble_eq_true rfl) dX9_addFile_14 ⟨Nat.le_refl 0, Nat.le_refl 0⟩ ?_
  obtain ⟨v_7, M_6, hv_5, h⟩ := bd2_ex h
  refine G.callV (rest := []) C (s_X0_addAct_50 hE  hv_5) ⟨tg_1101, tg_98, ok_X0_addAct, Nat.le_of_ble_eq_true rfl, Nat.le_of_ble_eq_true rfl⟩ tg_1098 tg_1099 tg_1100 (sc_50 hE) rfl rfl (Nat.le_of_ble_eq_true rfl) dX9_addFile_17 ⟨Nat.le_refl 0, Nat.le_refl 0⟩ ?_
  cases h
  exact G.iret C hr dX9_addFile_20
def f_X9_addFile_0 (x1 : Int32) (x2 : Int32) (x3 : Int32) (M : Mm) : Option (Int32 × Mm) := bb_X9_addFile_0_0 x1 x2 x3 M
theorem s_X9_addFile_0 {l : Launch} {E : Ev} {x1 : Int32} {x2 : Int32} {x3 : Int32} {M : Mm} {v : Int32} {M' : Mm} (hE : Has shC (eH E)) (h : f_X9_addFile_0 x1 x2 x3 M = some (v, M')) : MetA l yX9_addFile cX9_addFile 4 (some .int) 3 E [.ref (eA E 0), .int x1, .int x2, .int x3] M (some (.int v)) M' := by
  refine MetA.of (by decide +kernel) (Nat.le_of_ble_eq_true rfl) ?_
  intro p e s m below meth c C hr hnm
  exact G.sub [0, 1, 2, 3] rfl (gb_X9_addFile_0_0 hE C hr  h)
def bb_X9_judge_0_0 (x1 : Int32) (x2 : Int32) (M : Mm) : Option Int32 := bd (f_X9_needLetter_0 x1 M) fun _ => bd (f_X9_needRange x2 (0 : Int32) (1 : Int32)) fun _ => if x2 = 0 then (bd (f_X0_firstSpoiling_50_11 x1 M) fun v_13 => some v_13) else (bd (f_X0_goneBehind_50_11 x1 (M.1 50 5) M) fun v_6 => gd (inb x1 10) (if v_6 = ((M.2 12 (ix x1)) ^^^ (-1 : Int64)) then (bd (f_X9_asNumber (1 : Int32)) fun v_11 => some v_11) else (bd (f_X9_asNumber (0 : Int32)) fun v_9 => some v_9)))
set_option maxHeartbeats 4000000 in
set_option maxRecDepth 100000 in
theorem gb_X9_judge_0_0  {x1 : Int32} {x2 : Int32} {M : Mm} {v : Int32} (hE : Has shC (eH E)) (C : Cx RX9 cX9_judge 3 p (rmD 7) s m args meth c E) (hr : meth.sig.returnType = (some .int)) (h : bb_X9_judge_0_0 x1 x2 M = some v) : G p l e (rmD 7) s m args below meth c E 3 0 0 (QR below args s E 0 0 (some (.int v)) M) 0 [(0, .ref (eA E 0)), (1, .int x1), (2, .int x2)] [] M := by
  unfold bb_X9_judge_0_0 at h
  refine G.aload_n C 0 dX9_judge_0 rfl rfl ?_
  refine G.iload_n C 1 dX9_judge_1 rfl rfl ?_
  obtain ⟨u_2, hv_1, h⟩ := bd_ex h
  refine G.callV (rest := []) C (s_X9_needLetter_0 hE  hv_1) ⟨tg_894, tg_90, ok_X9_needLetter, Nat.le_of_ble_eq_true rfl, Nat.le_of_ble_eq_true rfl⟩ tg_891 tg_893 tg_22 (sc_0 hE) rfl rfl (Nat.le_of_ble_eq_true rfl) dX9_judge_2 ⟨Nat.le_refl 0, Nat.le_refl 0⟩ ?_
  refine G.iload_n C 2 dX9_judge_5 rfl rfl ?_
  refine G.iconst (v := (0 : Int32)) C dX9_judge_6 (by decide) ?_
  refine G.iconst (v := (1 : Int32)) C dX9_judge_7 (by decide) ?_
  obtain ⟨u_4, hv_3, h⟩ := bd_ex h
  refine G.callS (rest := []) C (s_X9_needRange  hv_3) ⟨tg_641, tg_90, ok_X9_needRange, Nat.le_of_ble_eq_true rfl, Nat.le_of_ble_eq_true rfl⟩ tg_639 tg_640 rfl (Nat.le_of_ble_eq_true rfl) dX9_judge_8 ⟨Nat.le_refl 0, Nat.le_refl 0⟩ ?_
  refine G.iload_n C 2 dX9_judge_11 rfl rfl ?_
  refine G.if_ne (tgt := 28) C dX9_judge_12 (by decide) (fun hc => ?_) (fun hc => ?_)
  · have h := it_f h hc
    refine G.aload_n C 0 dX9_judge_28 rfl rfl ?_
    refine G.getR (k := 8) C k_X9 (sc_0 hE) rfl (by decide) tg_487 dX9_judge_29 ?_
    refine G.aload_n C 0 dX9_judge_32 rfl rfl ?_
    refine G.getR (k := 1) C k_X9 (sc_0 hE) rfl (by decide) tg_480 dX9_judge_33 ?_
    refine G.iload_n C 1 dX9_judge_36 rfl rfl ?_
    refine G.aload_n C 0 dX9_judge_37 rfl rfl ?_
    refine G.getR (k := 8) C k_X9 (sc_0 hE) rfl (by decide) tg_487 dX9_judge_38 ?_
    refine G.getIN (k := 5) C k_X0 (sc_50 hE) rfl (by decide) tw_377 dX9_judge_41 ?_
    obtain ⟨v_6, hv_5, h⟩ := bd_ex h
    refine G.callV (rest := []) C (s_X0_goneBehind_50_11 hE  hv_5) ⟨tg_1127, tg_98, ok_X0_goneBehind, Nat.le_of_ble_eq_true rfl, Nat.le_of_ble_eq_true rfl⟩ tg_1124 tg_1125 tg_1126 (sc_50 hE) rfl rfl (Nat.le_of_ble_eq_true rfl) dX9_judge_44 ⟨Nat.le_refl 0, Nat.le_refl 0⟩ ?_
    refine G.aload_n C 0 dX9_judge_47 rfl rfl ?_
    refine G.getR (k := 1) C k_X9 (sc_0 hE) rfl (by decide) tg_480 dX9_judge_48 ?_
    refine G.getRN (k := 0) C k_X7 (sc_11 hE) rfl (by decide) tw_137 dX9_judge_51 ?_
    refine G.iload_n C 1 dX9_judge_54 rfl rfl ?_
    obtain ⟨hg_7, h⟩ := gd_ex h
    refine G.aJ (j := ix x1) C (sc_12 hE) hg_7 rfl dX9_judge_55 ?_
    refine G.ldc2 C tg_538 dX9_judge_56 ?_
    refine G.lxor C dX9_judge_59 ?_
    refine G.lcmp C dX9_judge_60 (G.if_ne (tgt := 68) C dX9_judge_61 (by decide) (fun hc => ?_) (fun hc => ?_))
    · have h := it_f h (lgc_ne.mp hc)
      refine G.iconst (v := (0 : Int32)) C dX9_judge_68 (by decide) ?_
      obtain ⟨v_9, hv_8, h⟩ := bd_ex h
      refine G.callS (rest := []) C (s_X9_asNumber  hv_8) ⟨tg_1090, tg_90, ok_X9_asNumber, Nat.le_of_ble_eq_true rfl, Nat.le_of_ble_eq_true rfl⟩ tg_1088 tg_1089 rfl (Nat.le_of_ble_eq_true rfl) dX9_judge_69 ⟨Nat.le_refl 0, Nat.le_refl 0⟩ ?_
      cases h
      exact G.iret C hr dX9_judge_72
    · have h := it_t h (lgc_eq.mp hc)
      refine G.iconst (v := (1 : Int32)) C dX9_judge_64 (by decide) ?_
      refine G.goto (tgt := 69) C dX9_judge_65 (by decide) ?_
      obtain ⟨v_11, hv_10, h⟩ := bd_ex h
      refine G.callS (rest := []) C (s_X9_asNumber  hv_10) ⟨tg_1090, tg_90, ok_X9_asNumber, Nat.le_of_ble_eq_true rfl, Nat.le_of_ble_eq_true rfl⟩ tg_1088 tg_1089 rfl (Nat.le_of_ble_eq_true rfl) dX9_judge_69 ⟨Nat.le_refl 0, Nat.le_refl 0⟩ ?_
      cases h
      exact G.iret C hr dX9_judge_72
  · have h := it_t h hc
    refine G.aload_n C 0 dX9_judge_15 rfl rfl ?_
    refine G.getR (k := 8) C k_X9 (sc_0 hE) rfl (by decide) tg_487 dX9_judge_16 ?_
    refine G.aload_n C 0 dX9_judge_19 rfl rfl ?_
    refine G.getR (k := 1) C k_X9 (sc_0 hE) rfl (by decide) tg_480 dX9_judge_20 ?_
    refine G.iload_n C 1 dX9_judge_23 rfl rfl ?_
    obtain ⟨v_13, hv_12, h⟩ := bd_ex h
    refine G.callV (rest := []) C (s_X0_firstSpoiling_50_11 hE  hv_12) ⟨tg_1119, tg_98, ok_X0_firstSpoiling, Nat.le_of_ble_eq_true rfl, Nat.le_of_ble_eq_true rfl⟩ tg_1116 tg_1117 tg_1118 (sc_50 hE) rfl rfl (Nat.le_of_ble_eq_true rfl) dX9_judge_24 ⟨Nat.le_refl 0, Nat.le_refl 0⟩ ?_
    cases h
    exact G.iret C hr dX9_judge_27
def f_X9_judge_0 (x1 : Int32) (x2 : Int32) (M : Mm) : Option Int32 := bb_X9_judge_0_0 x1 x2 M
theorem s_X9_judge_0 {l : Launch} {E : Ev} {x1 : Int32} {x2 : Int32} {M : Mm} {v : Int32} (hE : Has shC (eH E)) (h : f_X9_judge_0 x1 x2 M = some v) : MetA l yX9_judge cX9_judge 3 (some .int) 7 E [.ref (eA E 0), .int x1, .int x2] M (some (.int v)) M := by
  refine MetA.of (by decide +kernel) (Nat.le_of_ble_eq_true rfl) ?_
  intro p e s m below meth c C hr hnm
  exact G.sub [0, 1, 2] rfl (gb_X9_judge_0_0 hE C hr  h)
def bb_X9_layCutting_0_0 (x1 : Int32) (x2 : Int32) (x3 : Int32) (M : Mm) : Option Mm := bd (f_X9_needLetter_0 x1 M) fun _ => bd (f_X9_needRange x2 (0 : Int32) (15 : Int32)) fun _ => bd (f_X9_needRange x3 (0 : Int32) (15 : Int32)) fun _ => bd2 (f_X9_linesOf_0 x1 M) fun v_9 M_8 => gd (inb x1 10) (bd (f_X3_lay_19 (M_8.2 12 (ix x1)) M_8) fun M_12 => bd (f_X2_lay_30_11 x1 x2 M_12) fun M_14 => bd (f_X2_layBites_30_19 v_9 x3 M_14) fun M_16 => some M_16)
set_option maxHeartbeats 4000000 in
set_option maxRecDepth 100000 in
theorem gb_X9_layCutting_0_0  {x1 : Int32} {x2 : Int32} {x3 : Int32} {M : Mm} {M' : Mm} (hE : Has shC (eH E)) (C : Cx RX9 cX9_layCutting 6 p (rmD 26) s m args meth c E) (hr : meth.sig.returnType = none) (h : bb_X9_layCutting_0_0 x1 x2 x3 M = some M') : G p l e (rmD 26) s m args below meth c E 6 0 0 (QR below args s E 0 0 none M') 0 [(0, .ref (eA E 0)), (1, .int x1), (2, .int x2), (3, .int x3)] [] M := by
  unfold bb_X9_layCutting_0_0 at h
  refine G.aload_n C 0 dX9_layCutting_0 rfl rfl ?_
  refine G.iload_n C 1 dX9_layCutting_1 rfl rfl ?_
  obtain ⟨u_2, hv_1, h⟩ := bd_ex h
  refine G.callV (rest := []) C (s_X9_needLetter_0 hE  hv_1) ⟨tg_894, tg_90, ok_X9_needLetter, Nat.le_of_ble_eq_true rfl, Nat.le_of_ble_eq_true rfl⟩ tg_891 tg_893 tg_22 (sc_0 hE) rfl rfl (Nat.le_of_ble_eq_true rfl) dX9_layCutting_2 ⟨Nat.le_refl 0, Nat.le_refl 0⟩ ?_
  refine G.iload_n C 2 dX9_layCutting_5 rfl rfl ?_
  refine G.iconst (v := (0 : Int32)) C dX9_layCutting_6 (by decide) ?_
  refine G.bipush (v := (15 : Int32)) C dX9_layCutting_7 (by decide) ?_
  obtain ⟨u_4, hv_3, h⟩ := bd_ex h
  refine G.callS (rest := []) C (s_X9_needRange  hv_3) ⟨tg_641, tg_90, ok_X9_needRange, Nat.le_of_ble_eq_true rfl, Nat.le_of_ble_eq_true rfl⟩ tg_639 tg_640 rfl (Nat.le_of_ble_eq_true rfl) dX9_layCutting_9 ⟨Nat.le_refl 0, Nat.le_refl 0⟩ ?_
  refine G.iload_n C 3 dX9_layCutting_12 rfl rfl ?_
  refine G.iconst (v := (0 : Int32)) C dX9_layCutting_13 (by decide) ?_
  refine G.bipush (v := (15 : Int32)) C dX9_layCutting_14 (by decide) ?_
  obtain ⟨u_6, hv_5, h⟩ := bd_ex h
  refine G.callS (rest := []) C (s_X9_needRange  hv_5) ⟨tg_641, tg_90, ok_X9_needRange, Nat.le_of_ble_eq_true rfl, Nat.le_of_ble_eq_true rfl⟩ tg_639 tg_640 rfl (Nat.le_of_ble_eq_true rfl) dX9_layCutting_16 ⟨Nat.le_refl 0, Nat.le_refl 0⟩ ?_
  refine G.aload_n C 0 dX9_layCutting_19 rfl rfl ?_
  refine G.iload_n C 1 dX9_layCutting_20 rfl rfl ?_
  obtain ⟨v_9, M_8, hv_7, h⟩ := bd2_ex h
  refine G.callV (rest := []) C (s_X9_linesOf_0 hE  hv_7) ⟨tg_1024, tg_90, ok_X9_linesOf, Nat.le_of_ble_eq_true rfl, Nat.le_of_ble_eq_true rfl⟩ tg_1021 tg_1023 tg_26 (sc_0 hE) rfl rfl (Nat.le_of_ble_eq_true rfl) dX9_layCutting_21 ⟨Nat.le_refl 0, Nat.le_refl 0⟩ ?_
  refine G.lstore (L' := [(4, .long v_9), (0, .ref (eA E 0)), (1, .int x1), (2, .int x2), (3, .int x3)]) C dX9_layCutting_24 rfl (by decide) rfl ?_
  refine G.aload_n C 1 dX9_layCutting_26 rfl rfl ?_
  refine G.getR (k := 3) C k_X9 (sc_0 hE) rfl (by decide) tg_482 dX9_layCutting_27 ?_
  refine G.aload_n C 1 dX9_layCutting_30 rfl rfl ?_
  refine G.getR (k := 1) C k_X9 (sc_0 hE) rfl (by decide) tg_480 dX9_layCutting_31 ?_
  refine G.getRN (k := 0) C k_X7 (sc_11 hE) rfl (by decide) tw_137 dX9_layCutting_34 ?_
  refine G.iload_n C 2 dX9_layCutting_37 rfl rfl ?_
  obtain ⟨hg_10, h⟩ := gd_ex h
  refine G.aJ (j := ix x1) C (sc_12 hE) hg_10 rfl dX9_layCutting_38 ?_
  obtain ⟨M_12, hv_11, h⟩ := bd_ex h
  refine G.callV (rest := []) C (s_X3_lay_19 hE  hv_11) ⟨tg_568, tg_93, ok_X3_lay, Nat.le_of_ble_eq_true rfl, Nat.le_of_ble_eq_true rfl⟩ tg_565 tg_566 tg_567 (sc_19 hE) rfl rfl (Nat.le_of_ble_eq_true rfl) dX9_layCutting_39 ⟨Nat.le_refl 0, Nat.le_refl 0⟩ ?_
  refine G.aload_n C 1 dX9_layCutting_42 rfl rfl ?_
  refine G.getR (k := 5) C k_X9 (sc_0 hE) rfl (by decide) tg_484 dX9_layCutting_43 ?_
  refine G.aload_n C 1 dX9_layCutting_46 rfl rfl ?_
  refine G.getR (k := 1) C k_X9 (sc_0 hE) rfl (by decide) tg_480 dX9_layCutting_47 ?_
  refine G.iload_n C 2 dX9_layCutting_50 rfl rfl ?_
  refine G.iload_n C 3 dX9_layCutting_51 rfl rfl ?_
  obtain ⟨M_14, hv_13, h⟩ := bd_ex h
  refine G.callV (rest := []) C (s_X2_lay_30_11 hE  hv_13) ⟨tg_1142, tg_95, ok_X2_lay, Nat.le_of_ble_eq_true rfl, Nat.le_of_ble_eq_true rfl⟩ tg_1139 tg_1140 tg_1141 (sc_30 hE) rfl rfl (Nat.le_of_ble_eq_true rfl) dX9_layCutting_52 ⟨Nat.le_refl 0, Nat.le_refl 0⟩ ?_
  refine G.aload_n C 1 dX9_layCutting_55 rfl rfl ?_
  refine G.getR (k := 5) C k_X9 (sc_0 hE) rfl (by decide) tg_484 dX9_layCutting_56 ?_
  refine G.aload_n C 1 dX9_layCutting_59 rfl rfl ?_
  refine G.getR (k := 3) C k_X9 (sc_0 hE) rfl (by decide) tg_482 dX9_layCutting_60 ?_
  refine G.lload C 0 dX9_layCutting_63 rfl ?_
  refine G.iload_n C 4 dX9_layCutting_65 rfl rfl ?_
  obtain ⟨M_16, hv_15, h⟩ := bd_ex h
  refine G.callV (rest := []) C (s_X2_layBites_30_19 hE  hv_15) ⟨tg_1152, tg_95, ok_X2_layBites, Nat.le_of_ble_eq_true rfl, Nat.le_of_ble_eq_true rfl⟩ tg_1149 tg_1150 tg_1151 (sc_30 hE) rfl rfl (Nat.le_of_ble_eq_true rfl) dX9_layCutting_66 ⟨Nat.le_refl 0, Nat.le_refl 0⟩ ?_
  cases h
  exact G.vret C hr dX9_layCutting_69
def f_X9_layCutting_0 (x1 : Int32) (x2 : Int32) (x3 : Int32) (M : Mm) : Option Mm := bb_X9_layCutting_0_0 x1 x2 x3 M
theorem s_X9_layCutting_0 {l : Launch} {E : Ev} {x1 : Int32} {x2 : Int32} {x3 : Int32} {M : Mm} {M' : Mm} (hE : Has shC (eH E)) (h : f_X9_layCutting_0 x1 x2 x3 M = some M') : MetA l yX9_layCutting cX9_layCutting 6 none 26 E [.ref (eA E 0), .int x1, .int x2, .int x3] M none M' := by
  refine MetA.of (by decide +kernel) (Nat.le_of_ble_eq_true rfl) ?_
  intro p e s m below meth c C hr hnm
  exact G.sub [0, 1, 2, 3] rfl (gb_X9_layCutting_0_0 hE C hr  h)
def bb_X9_hours_0_0 (x1 : Int32) (x2 : Int32) (x3 : Int32) (M : Mm) : Option (Int64 × Mm) := bd (f_X9_layCutting_0 x1 x2 x3 M) fun M_2 => bd (f_X2_mean_30 M_2) fun v_4 => some (v_4, M_2)
set_option maxHeartbeats 4000000 in
set_option maxRecDepth 100000 in
theorem gb_X9_hours_0_0  {x1 : Int32} {x2 : Int32} {x3 : Int32} {M : Mm} {v : Int64} {M' : Mm} (hE : Has shC (eH E)) (C : Cx RX9 cX9_hours 4 p (rmD 27) s m args meth c E) (hr : meth.sig.returnType = (some .long)) (h : bb_X9_hours_0_0 x1 x2 x3 M = some (v, M')) : G p l e (rmD 27) s m args below meth c E 4 0 0 (QR below args s E 0 0 (some (.long v)) M') 0 [(0, .ref (eA E 0)), (1, .int x1), (2, .int x2), (3, .int x3)] [] M := by
  unfold bb_X9_hours_0_0 at h
  refine G.aload_n C 0 dX9_hours_0 rfl rfl ?_
  refine G.iload_n C 1 dX9_hours_1 rfl rfl ?_
  refine G.iload_n C 2 dX9_hours_2 rfl rfl ?_
  refine G.iload_n C 3 dX9_hours_3 rfl rfl ?_
  obtain ⟨M_2, hv_1, h⟩ := bd_ex h
  refine G.callV (rest := []) C (s_X9_layCutting_0 hE  hv_1) ⟨tg_1138, tg_90, ok_X9_layCutting, Nat.le_of_ble_eq_true rfl, Nat.le_of_ble_eq_true rfl⟩ tg_1135 tg_1137 tg_28 (sc_0 hE) rfl rfl (Nat.le_of_ble_eq_true rfl) dX9_hours_4 ⟨Nat.le_refl 0, Nat.le_refl 0⟩ ?_
  refine G.aload_n C 0 dX9_hours_7 rfl rfl ?_
  refine G.getR (k := 5) C k_X9 (sc_0 hE) rfl (by decide) tg_484 dX9_hours_8 ?_
  obtain ⟨v_4, hv_3, h⟩ := bd_ex h
  refine G.callV (rest := []) C (s_X2_mean_30 hE  hv_3) ⟨tg_1160, tg_95, ok_X2_mean, Nat.le_of_ble_eq_true rfl, Nat.le_of_ble_eq_true rfl⟩ tg_1157 tg_1158 tg_1159 (sc_30 hE) rfl rfl (Nat.le_of_ble_eq_true rfl) dX9_hours_11 ⟨Nat.le_refl 0, Nat.le_refl 0⟩ ?_
  cases h
  exact G.lret C hr dX9_hours_14
def f_X9_hours_0 (x1 : Int32) (x2 : Int32) (x3 : Int32) (M : Mm) : Option (Int64 × Mm) := bb_X9_hours_0_0 x1 x2 x3 M
theorem s_X9_hours_0 {l : Launch} {E : Ev} {x1 : Int32} {x2 : Int32} {x3 : Int32} {M : Mm} {v : Int64} {M' : Mm} (hE : Has shC (eH E)) (h : f_X9_hours_0 x1 x2 x3 M = some (v, M')) : MetA l yX9_hours cX9_hours 4 (some .long) 27 E [.ref (eA E 0), .int x1, .int x2, .int x3] M (some (.long v)) M' := by
  refine MetA.of (by decide +kernel) (Nat.le_of_ble_eq_true rfl) ?_
  intro p e s m below meth c C hr hnm
  exact G.sub [0, 1, 2, 3] rfl (gb_X9_hours_0_0 hE C hr  h)
def bb_X9_order_0_0 (x1 : Int32) (x2 : Int32) (x3 : Int32) (x4 : Int32) (M : Mm) : Option (Int32 × Mm) := bd (f_X9_layCutting_0 x1 x2 x3 M) fun M_2 => bd (f_X2_actAt_30 x4 M_2) fun v_4 => some (v_4, M_2)
set_option maxHeartbeats 4000000 in
set_option maxRecDepth 100000 in
theorem gb_X9_order_0_0  {x1 : Int32} {x2 : Int32} {x3 : Int32} {x4 : Int32} {M : Mm} {v : Int32} {M' : Mm} (hE : Has shC (eH E)) (C : Cx RX9 cX9_order 5 p (rmD 27) s m args meth c E) (hr : meth.sig.returnType = (some .int)) (h : bb_X9_order_0_0 x1 x2 x3 x4 M = some (v, M')) : G p l e (rmD 27) s m args below meth c E 5 0 0 (QR below args s E 0 0 (some (.int v)) M') 0 [(0, .ref (eA E 0)), (1, .int x1), (2, .int x2), (3, .int x3), (4, .int x4)] [] M := by
  unfold bb_X9_order_0_0 at h
  refine G.aload_n C 0 dX9_order_0 rfl rfl ?_
  refine G.iload_n C 1 dX9_order_1 rfl rfl ?_
  refine G.iload_n C 2 dX9_order_2 rfl rfl ?_
  refine G.iload_n C 3 dX9_order_3 rfl rfl ?_
  obtain ⟨M_2, hv_1, h⟩ := bd_ex h
  refine G.callV (rest := []) C (s_X9_layCutting_0 hE  hv_1) ⟨tg_1138, tg_90, ok_X9_layCutting, Nat.le_of_ble_eq_true rfl, Nat.le_of_ble_eq_true rfl⟩ tg_1135 tg_1137 tg_28 (sc_0 hE) rfl rfl (Nat.le_of_ble_eq_true rfl) dX9_order_4 ⟨Nat.le_refl 0, Nat.le_refl 0⟩ ?_
  refine G.aload_n C 0 dX9_order_7 rfl rfl ?_
  refine G.getR (k := 5) C k_X9 (sc_0 hE) rfl (by decide) tg_484 dX9_order_8 ?_
  refine G.iload C 4 dX9_order_11 rfl ?_
  obtain ⟨v_4, hv_3, h⟩ := bd_ex h
  refine G.callV (rest := []) C (s_X2_actAt_30 hE  hv_3) ⟨tg_1185, tg_95, ok_X2_actAt, Nat.le_of_ble_eq_true rfl, Nat.le_of_ble_eq_true rfl⟩ tg_1182 tg_1183 tg_1184 (sc_30 hE) rfl rfl (Nat.le_of_ble_eq_true rfl) dX9_order_13 ⟨Nat.le_refl 0, Nat.le_refl 0⟩ ?_
  cases h
  exact G.iret C hr dX9_order_16
def f_X9_order_0 (x1 : Int32) (x2 : Int32) (x3 : Int32) (x4 : Int32) (M : Mm) : Option (Int32 × Mm) := bb_X9_order_0_0 x1 x2 x3 x4 M
theorem s_X9_order_0 {l : Launch} {E : Ev} {x1 : Int32} {x2 : Int32} {x3 : Int32} {x4 : Int32} {M : Mm} {v : Int32} {M' : Mm} (hE : Has shC (eH E)) (h : f_X9_order_0 x1 x2 x3 x4 M = some (v, M')) : MetA l yX9_order cX9_order 5 (some .int) 27 E [.ref (eA E 0), .int x1, .int x2, .int x3, .int x4] M (some (.int v)) M' := by
  refine MetA.of (by decide +kernel) (Nat.le_of_ble_eq_true rfl) ?_
  intro p e s m below meth c C hr hnm
  exact G.sub [0, 1, 2, 3, 4] rfl (gb_X9_order_0_0 hE C hr  h)
def bb_X9_black_0_0 (x1 : Int32) (x2 : Int32) (M : Mm) : Option Int32 := bd (f_X9_needLetter_0 x1 M) fun _ => bd (f_X9_needRange x2 (1 : Int32) (9 : Int32)) fun _ => gd (inb x2 10) (bd (f_X6_blackOf_34 x1 (M.1 16 (ix x2)) M) fun v_7 => some v_7)
set_option maxHeartbeats 4000000 in
set_option maxRecDepth 100000 in
theorem gb_X9_black_0_0  {x1 : Int32} {x2 : Int32} {M : Mm} {v : Int32} (hE : Has shC (eH E)) (C : Cx RX9 cX9_black 3 p (rmD 2) s m args meth c E) (hr : meth.sig.returnType = (some .int)) (h : bb_X9_black_0_0 x1 x2 M = some v) : G p l e (rmD 2) s m args below meth c E 3 0 0 (QR below args s E 0 0 (some (.int v)) M) 0 [(0, .ref (eA E 0)), (1, .int x1), (2, .int x2)] [] M := by
  unfold bb_X9_black_0_0 at h
  refine G.aload_n C 0 dX9_black_0 rfl rfl ?_
  refine G.iload_n C 1 dX9_black_1 rfl rfl ?_
  obtain ⟨u_2, hv_1, h⟩ := bd_ex h
  refine G.callV (rest := []) C (s_X9_needLetter_0 hE  hv_1) ⟨tg_894, tg_90, ok_X9_needLetter, Nat.le_of_ble_eq_true rfl, Nat.le_of_ble_eq_true rfl⟩ tg_891 tg_893 tg_22 (sc_0 hE) rfl rfl (Nat.le_of_ble_eq_true rfl) dX9_black_2 ⟨Nat.le_refl 0, Nat.le_refl 0⟩ ?_
  refine G.iload_n C 2 dX9_black_5 rfl rfl ?_
  refine G.iconst (v := (1 : Int32)) C dX9_black_6 (by decide) ?_
  refine G.bipush (v := (9 : Int32)) C dX9_black_7 (by decide) ?_
  obtain ⟨u_4, hv_3, h⟩ := bd_ex h
  refine G.callS (rest := []) C (s_X9_needRange  hv_3) ⟨tg_641, tg_90, ok_X9_needRange, Nat.le_of_ble_eq_true rfl, Nat.le_of_ble_eq_true rfl⟩ tg_639 tg_640 rfl (Nat.le_of_ble_eq_true rfl) dX9_black_9 ⟨Nat.le_refl 0, Nat.le_refl 0⟩ ?_
  refine G.aload_n C 0 dX9_black_12 rfl rfl ?_
  refine G.getR (k := 6) C k_X9 (sc_0 hE) rfl (by decide) tg_485 dX9_black_13 ?_
  refine G.iload_n C 1 dX9_black_16 rfl rfl ?_
  refine G.aload_n C 0 dX9_black_17 rfl rfl ?_
  refine G.getR (k := 1) C k_X9 (sc_0 hE) rfl (by decide) tg_480 dX9_black_18 ?_
  refine G.getRN (k := 4) C k_X7 (sc_11 hE) rfl (by decide) tw_147 dX9_black_21 ?_
  refine G.iload_n C 2 dX9_black_24 rfl rfl ?_
  obtain ⟨hg_5, h⟩ := gd_ex h
  refine G.aI (j := ix x2) C (sc_16 hE) hg_5 rfl dX9_black_25 ?_
  obtain ⟨v_7, hv_6, h⟩ := bd_ex h
  refine G.callV (rest := []) C (s_X6_blackOf_34 hE  hv_6) ⟨tg_1196, tg_96, ok_X6_blackOf, Nat.le_of_ble_eq_true rfl, Nat.le_of_ble_eq_true rfl⟩ tg_1193 tg_1194 tg_1195 (sc_34 hE) rfl rfl (Nat.le_of_ble_eq_true rfl) dX9_black_26 ⟨Nat.le_refl 0, Nat.le_refl 0⟩ ?_
  cases h
  exact G.iret C hr dX9_black_29
def f_X9_black_0 (x1 : Int32) (x2 : Int32) (M : Mm) : Option Int32 := bb_X9_black_0_0 x1 x2 M
theorem s_X9_black_0 {l : Launch} {E : Ev} {x1 : Int32} {x2 : Int32} {M : Mm} {v : Int32} (hE : Has shC (eH E)) (h : f_X9_black_0 x1 x2 M = some v) : MetA l yX9_black cX9_black 3 (some .int) 2 E [.ref (eA E 0), .int x1, .int x2] M (some (.int v)) M := by
  refine MetA.of (by decide +kernel) (Nat.le_of_ble_eq_true rfl) ?_
  intro p e s m below meth c C hr hnm
  exact G.sub [0, 1, 2] rfl (gb_X9_black_0_0 hE C hr  h)
def bb_X9_colour_0_0 (x1 : Int32) (x2 : Int32) (x3 : Int32) (M : Mm) : Option Int32 := if x1 < 0 then (none) else (if x1 < (M.1 11 8) then (bd (f_X9_needRange x2 (1 : Int32) (9 : Int32)) fun _ => bd (f_X9_needRange x3 (0 : Int32) (9765624 : Int32)) fun _ => gd (inb x2 10) (bd (f_X6_colourOf_34 x1 (M.1 16 (ix x2)) x3 M) fun v_7 => some v_7)) else (none))
set_option maxHeartbeats 4000000 in
set_option maxRecDepth 100000 in
theorem gb_X9_colour_0_0  {x1 : Int32} {x2 : Int32} {x3 : Int32} {M : Mm} {v : Int32} (hE : Has shC (eH E)) (C : Cx RX9 cX9_colour 4 p (rmD 4) s m args meth c E) (hr : meth.sig.returnType = (some .int)) (h : bb_X9_colour_0_0 x1 x2 x3 M = some v) : G p l e (rmD 4) s m args below meth c E 4 0 0 (QR below args s E 0 0 (some (.int v)) M) 0 [(0, .ref (eA E 0)), (1, .int x1), (2, .int x2), (3, .int x3)] [] M := by
  unfold bb_X9_colour_0_0 at h
  refine G.iload_n C 1 dX9_colour_0 rfl rfl ?_
  refine G.if_lt (tgt := 15) C dX9_colour_1 (by decide) (fun hc => ?_) (fun hc => ?_)
  · have h := it_t h hc
    cases h
  · have h := it_f h hc
    refine G.iload_n C 1 dX9_colour_4 rfl rfl ?_
    refine G.aload_n C 0 dX9_colour_5 rfl rfl ?_
    refine G.getR (k := 1) C k_X9 (sc_0 hE) rfl (by decide) tg_480 dX9_colour_6 ?_
    refine G.getIN (k := 8) C k_X7 (sc_11 hE) rfl (by decide) tw_164 dX9_colour_9 ?_
    refine G.icmp_lt (tgt := 26) C dX9_colour_12 (by decide) (fun hc => ?_) (fun hc => ?_)
    · have h := it_t h hc
      refine G.iload_n C 2 dX9_colour_26 rfl rfl ?_
      refine G.iconst (v := (1 : Int32)) C dX9_colour_27 (by decide) ?_
      refine G.bipush (v := (9 : Int32)) C dX9_colour_28 (by decide) ?_
      obtain ⟨u_2, hv_1, h⟩ := bd_ex h
      refine G.callS (rest := []) C (s_X9_needRange  hv_1) ⟨tg_641, tg_90, ok_X9_needRange, Nat.le_of_ble_eq_true rfl, Nat.le_of_ble_eq_true rfl⟩ tg_639 tg_640 rfl (Nat.le_of_ble_eq_true rfl) dX9_colour_30 ⟨Nat.le_refl 0, Nat.le_refl 0⟩ ?_
      refine G.iload_n C 3 dX9_colour_33 rfl rfl ?_
      refine G.iconst (v := (0 : Int32)) C dX9_colour_34 (by decide) ?_
      refine G.ldcw C tg_1205 dX9_colour_35 ?_
      obtain ⟨u_4, hv_3, h⟩ := bd_ex h
      refine G.callS (rest := []) C (s_X9_needRange  hv_3) ⟨tg_641, tg_90, ok_X9_needRange, Nat.le_of_ble_eq_true rfl, Nat.le_of_ble_eq_true rfl⟩ tg_639 tg_640 rfl (Nat.le_of_ble_eq_true rfl) dX9_colour_38 ⟨Nat.le_refl 0, Nat.le_refl 0⟩ ?_
      refine G.aload_n C 0 dX9_colour_41 rfl rfl ?_
      refine G.getR (k := 6) C k_X9 (sc_0 hE) rfl (by decide) tg_485 dX9_colour_42 ?_
      refine G.iload_n C 1 dX9_colour_45 rfl rfl ?_
      refine G.aload_n C 0 dX9_colour_46 rfl rfl ?_
      refine G.getR (k := 1) C k_X9 (sc_0 hE) rfl (by decide) tg_480 dX9_colour_47 ?_
      refine G.getRN (k := 4) C k_X7 (sc_11 hE) rfl (by decide) tw_147 dX9_colour_50 ?_
      refine G.iload_n C 2 dX9_colour_53 rfl rfl ?_
      obtain ⟨hg_5, h⟩ := gd_ex h
      refine G.aI (j := ix x2) C (sc_16 hE) hg_5 rfl dX9_colour_54 ?_
      refine G.iload_n C 3 dX9_colour_55 rfl rfl ?_
      obtain ⟨v_7, hv_6, h⟩ := bd_ex h
      refine G.callV (rest := []) C (s_X6_colourOf_34 hE  hv_6) ⟨tg_1209, tg_96, ok_X6_colourOf, Nat.le_of_ble_eq_true rfl, Nat.le_of_ble_eq_true rfl⟩ tg_1206 tg_1207 tg_1208 (sc_34 hE) rfl rfl (Nat.le_of_ble_eq_true rfl) dX9_colour_56 ⟨Nat.le_refl 0, Nat.le_refl 0⟩ ?_
      cases h
      exact G.iret C hr dX9_colour_59
    · have h := it_f h hc
      cases h
def f_X9_colour_0 (x1 : Int32) (x2 : Int32) (x3 : Int32) (M : Mm) : Option Int32 := bb_X9_colour_0_0 x1 x2 x3 M
theorem s_X9_colour_0 {l : Launch} {E : Ev} {x1 : Int32} {x2 : Int32} {x3 : Int32} {M : Mm} {v : Int32} (hE : Has shC (eH E)) (h : f_X9_colour_0 x1 x2 x3 M = some v) : MetA l yX9_colour cX9_colour 4 (some .int) 4 E [.ref (eA E 0), .int x1, .int x2, .int x3] M (some (.int v)) M := by
  refine MetA.of (by decide +kernel) (Nat.le_of_ble_eq_true rfl) ?_
  intro p e s m below meth c C hr hnm
  exact G.sub [0, 1, 2, 3] rfl (gb_X9_colour_0_0 hE C hr  h)
def bb_X9_uneven_0_0 (x1 : Int32) (x2 : Int32) (M : Mm) : Option (Int32 × Mm) := bd (f_X9_needRange x1 (1 : Int32) (9 : Int32)) fun _ => bd (f_X9_needRange x2 (0 : Int32) (9765624 : Int32)) fun _ => gd (inb x1 10) (bd2 (f_X6_unevenOf_34 (M.1 16 (ix x1)) x2 M) fun v_8 M_7 => some (v_8, M_7))
set_option maxHeartbeats 4000000 in
set_option maxRecDepth 100000 in
theorem gb_X9_uneven_0_0  {x1 : Int32} {x2 : Int32} {M : Mm} {v : Int32} {M' : Mm} (hE : Has shC (eH E)) (C : Cx RX9 cX9_uneven 3 p (rmD 5) s m args meth c E) (hr : meth.sig.returnType = (some .int)) (h : bb_X9_uneven_0_0 x1 x2 M = some (v, M')) : G p l e (rmD 5) s m args below meth c E 3 0 0 (QR below args s E 0 0 (some (.int v)) M') 0 [(0, .ref (eA E 0)), (1, .int x1), (2, .int x2)] [] M := by
  unfold bb_X9_uneven_0_0 at h
  refine G.iload_n C 1 dX9_uneven_0 rfl rfl ?_
  refine G.iconst (v := (1 : Int32)) C dX9_uneven_1 (by decide) ?_
  refine G.bipush (v := (9 : Int32)) C dX9_uneven_2 (by decide) ?_
  obtain ⟨u_2, hv_1, h⟩ := bd_ex h
  refine G.callS (rest := []) C (s_X9_needRange  hv_1) ⟨tg_641, tg_90, ok_X9_needRange, Nat.le_of_ble_eq_true rfl, Nat.le_of_ble_eq_true rfl⟩ tg_639 tg_640 rfl (Nat.le_of_ble_eq_true rfl) dX9_uneven_4 ⟨Nat.le_refl 0, Nat.le_refl 0⟩ ?_
  refine G.iload_n C 2 dX9_uneven_7 rfl rfl ?_
  refine G.iconst (v := (0 : Int32)) C dX9_uneven_8 (by decide) ?_
  refine G.ldcw C tg_1205 dX9_uneven_9 ?_
  obtain ⟨u_4, hv_3, h⟩ := bd_ex h
  refine G.callS (rest := []) C (s_X9_needRange  hv_3) ⟨tg_641, tg_90, ok_X9_needRange, Nat.le_of_ble_eq_true rfl, Nat.le_of_ble_eq_true rfl⟩ tg_639 tg_640 rfl (Nat.le_of_ble_eq_true rfl) dX9_uneven_12 ⟨Nat.le_refl 0, Nat.le_refl 0⟩ ?_
  refine G.aload_n C 0 dX9_uneven_15 rfl rfl ?_
  refine G.getR (k := 6) C k_X9 (sc_0 hE) rfl (by decide) tg_485 dX9_uneven_16 ?_
  refine G.aload_n C 0 dX9_uneven_19 rfl rfl ?_
  refine G.getR (k := 1) C k_X9 (sc_0 hE) rfl (by decide) tg_480 dX9_uneven_20 ?_
  refine G.getRN (k := 4) C k_X7 (sc_11 hE) rfl (by decide) tw_147 dX9_uneven_23 ?_
  refine G.iload_n C 1 dX9_uneven_26 rfl rfl ?_
  obtain ⟨hg_5, h⟩ := gd_ex h
  refine G.aI (j := ix x1) C (sc_16 hE) hg_5 rfl dX9_uneven_27 ?_
  refine G.iload_n C 2 dX9_uneven_28 rfl rfl ?_
  obtain ⟨v_8, M_7, hv_6, h⟩ := bd2_ex h
  refine G.callV (rest := []) C (s_X6_unevenOf_34 hE  hv_6) ⟨tg_1234, tg_96, ok_X6_unevenOf, Nat.le_of_ble_eq_true rfl, Nat.le_of_ble_eq_true rfl⟩ tg_1231 tg_1232 tg_1233 (sc_34 hE) rfl rfl (Nat.le_of_ble_eq_true rfl) dX9_uneven_29 ⟨Nat.le_refl 0, Nat.le_refl 0⟩ ?_
  cases h
  exact G.iret C hr dX9_uneven_32
def f_X9_uneven_0 (x1 : Int32) (x2 : Int32) (M : Mm) : Option (Int32 × Mm) := bb_X9_uneven_0_0 x1 x2 M
theorem s_X9_uneven_0 {l : Launch} {E : Ev} {x1 : Int32} {x2 : Int32} {M : Mm} {v : Int32} {M' : Mm} (hE : Has shC (eH E)) (h : f_X9_uneven_0 x1 x2 M = some (v, M')) : MetA l yX9_uneven cX9_uneven 3 (some .int) 5 E [.ref (eA E 0), .int x1, .int x2] M (some (.int v)) M' := by
  refine MetA.of (by decide +kernel) (Nat.le_of_ble_eq_true rfl) ?_
  intro p e s m below meth c C hr hnm
  exact G.sub [0, 1, 2] rfl (gb_X9_uneven_0_0 hE C hr  h)
def bb_X9_even_0_0 (x1 : Int32) (M : Mm) : Option (Int32 × Mm) := bd (f_X9_needRange x1 (1 : Int32) (9 : Int32)) fun _ => gd (inb x1 10) (bd2 (f_X6_evenRoom_34 (M.1 16 (ix x1)) M) fun v_6 M_5 => some (v_6, M_5))
set_option maxHeartbeats 4000000 in
set_option maxRecDepth 100000 in
theorem gb_X9_even_0_0  {x1 : Int32} {M : Mm} {v : Int32} {M' : Mm} (hE : Has shC (eH E)) (C : Cx RX9 cX9_even 2 p (rmD 15) s m args meth c E) (hr : meth.sig.returnType = (some .int)) (h : bb_X9_even_0_0 x1 M = some (v, M')) : G p l e (rmD 15) s m args below meth c E 2 0 0 (QR below args s E 0 0 (some (.int v)) M') 0 [(0, .ref (eA E 0)), (1, .int x1)] [] M := by
  unfold bb_X9_even_0_0 at h
  refine G.iload_n C 1 dX9_even_0 rfl rfl ?_
  refine G.iconst (v := (1 : Int32)) C dX9_even_1 (by decide) ?_
  refine G.bipush (v := (9 : Int32)) C dX9_even_2 (by decide) ?_
  obtain ⟨u_2, hv_1, h⟩ := bd_ex h
  refine G.callS (rest := []) C (s_X9_needRange  hv_1) ⟨tg_641, tg_90, ok_X9_needRange, Nat.le_of_ble_eq_true rfl, Nat.le_of_ble_eq_true rfl⟩ tg_639 tg_640 rfl (Nat.le_of_ble_eq_true rfl) dX9_even_4 ⟨Nat.le_refl 0, Nat.le_refl 0⟩ ?_
  refine G.aload_n C 0 dX9_even_7 rfl rfl ?_
  refine G.getR (k := 6) C k_X9 (sc_0 hE) rfl (by decide) tg_485 dX9_even_8 ?_
  refine G.aload_n C 0 dX9_even_11 rfl rfl ?_
  refine G.getR (k := 1) C k_X9 (sc_0 hE) rfl (by decide) tg_480 dX9_even_12 ?_
  refine G.getRN (k := 4) C k_X7 (sc_11 hE) rfl (by decide) tw_147 dX9_even_15 ?_
  refine G.iload_n C 1 dX9_even_18 rfl rfl ?_
  obtain ⟨hg_3, h⟩ := gd_ex h
  refine G.aI (j := ix x1) C (sc_16 hE) hg_3 rfl dX9_even_19 ?_
  obtain ⟨v_6, M_5, hv_4, h⟩ := bd2_ex h
  refine G.callV (rest := []) C (s_X6_evenRoom_34 hE  hv_4) ⟨tg_1258, tg_96, ok_X6_evenRoom, Nat.le_of_ble_eq_true rfl, Nat.le_of_ble_eq_true rfl⟩ tg_1255 tg_1256 tg_1257 (sc_34 hE) rfl rfl (Nat.le_of_ble_eq_true rfl) dX9_even_20 ⟨Nat.le_refl 0, Nat.le_refl 0⟩ ?_
  cases h
  exact G.iret C hr dX9_even_23
def f_X9_even_0 (x1 : Int32) (M : Mm) : Option (Int32 × Mm) := bb_X9_even_0_0 x1 M
theorem s_X9_even_0 {l : Launch} {E : Ev} {x1 : Int32} {M : Mm} {v : Int32} {M' : Mm} (hE : Has shC (eH E)) (h : f_X9_even_0 x1 M = some (v, M')) : MetA l yX9_even cX9_even 2 (some .int) 15 E [.ref (eA E 0), .int x1] M (some (.int v)) M' := by
  refine MetA.of (by decide +kernel) (Nat.le_of_ble_eq_true rfl) ?_
  intro p e s m below meth c C hr hnm
  exact G.sub [0, 1] rfl (gb_X9_even_0_0 hE C hr  h)
def bb_X9_press_0_0 (x1 : Int32) (M : Mm) : Option Int32 := bd (f_X9_needRange x1 (0 : Int32) (99999 : Int32)) fun _ => bd (f_X6_spreadNearest_34 x1 M) fun v_4 => some v_4
set_option maxHeartbeats 4000000 in
set_option maxRecDepth 100000 in
theorem gb_X9_press_0_0  {x1 : Int32} {M : Mm} {v : Int32} (hE : Has shC (eH E)) (C : Cx RX9 cX9_press 2 p (rmD 5) s m args meth c E) (hr : meth.sig.returnType = (some .int)) (h : bb_X9_press_0_0 x1 M = some v) : G p l e (rmD 5) s m args below meth c E 2 0 0 (QR below args s E 0 0 (some (.int v)) M) 0 [(0, .ref (eA E 0)), (1, .int x1)] [] M := by
  unfold bb_X9_press_0_0 at h
  refine G.iload_n C 1 dX9_press_0 rfl rfl ?_
  refine G.iconst (v := (0 : Int32)) C dX9_press_1 (by decide) ?_
  refine G.ldcw C tg_1285 dX9_press_2 ?_
  obtain ⟨u_2, hv_1, h⟩ := bd_ex h
  refine G.callS (rest := []) C (s_X9_needRange  hv_1) ⟨tg_641, tg_90, ok_X9_needRange, Nat.le_of_ble_eq_true rfl, Nat.le_of_ble_eq_true rfl⟩ tg_639 tg_640 rfl (Nat.le_of_ble_eq_true rfl) dX9_press_5 ⟨Nat.le_refl 0, Nat.le_refl 0⟩ ?_
  refine G.aload_n C 0 dX9_press_8 rfl rfl ?_
  refine G.getR (k := 6) C k_X9 (sc_0 hE) rfl (by decide) tg_485 dX9_press_9 ?_
  refine G.iload_n C 1 dX9_press_12 rfl rfl ?_
  obtain ⟨v_4, hv_3, h⟩ := bd_ex h
  refine G.callV (rest := []) C (s_X6_spreadNearest_34 hE  hv_3) ⟨tg_1289, tg_96, ok_X6_spreadNearest, Nat.le_of_ble_eq_true rfl, Nat.le_of_ble_eq_true rfl⟩ tg_1286 tg_1287 tg_1288 (sc_34 hE) rfl rfl (Nat.le_of_ble_eq_true rfl) dX9_press_13 ⟨Nat.le_refl 0, Nat.le_refl 0⟩ ?_
  cases h
  exact G.iret C hr dX9_press_16
def f_X9_press_0 (x1 : Int32) (M : Mm) : Option Int32 := bb_X9_press_0_0 x1 M
theorem s_X9_press_0 {l : Launch} {E : Ev} {x1 : Int32} {M : Mm} {v : Int32} (hE : Has shC (eH E)) (h : f_X9_press_0 x1 M = some v) : MetA l yX9_press cX9_press 2 (some .int) 5 E [.ref (eA E 0), .int x1] M (some (.int v)) M := by
  refine MetA.of (by decide +kernel) (Nat.le_of_ble_eq_true rfl) ?_
  intro p e s m below meth c C hr hnm
  exact G.sub [0, 1] rfl (gb_X9_press_0_0 hE C hr  h)
def bb_X9_print_0_0 (x1 : Int64) (M : Mm) : Option (Int32 × Mm) := if x1 = (0 : Int64) then (none) else (bd2 (f_X0_addPrint_50 x1 M) fun v_3 M_2 => some (v_3, M_2))
set_option maxHeartbeats 4000000 in
set_option maxRecDepth 100000 in
theorem gb_X9_print_0_0  {x1 : Int64} {M : Mm} {v : Int32} {M' : Mm} (hE : Has shC (eH E)) (C : Cx RX9 cX9_print 3 p (rmD 2) s m args meth c E) (hr : meth.sig.returnType = (some .int)) (h : bb_X9_print_0_0 x1 M = some (v, M')) : G p l e (rmD 2) s m args below meth c E 3 0 0 (QR below args s E 0 0 (some (.int v)) M') 0 [(0, .ref (eA E 0)), (1, .long x1)] [] M := by
  unfold bb_X9_print_0_0 at h
  refine G.lload_n C 1 dX9_print_0 rfl rfl ?_
  refine G.lconst (v := (0 : Int64)) C dX9_print_1 (by decide) ?_
  refine G.lcmp C dX9_print_2 (G.if_ne (tgt := 17) C dX9_print_3 (by decide) (fun hc => ?_) (fun hc => ?_))
  · have h := it_f h (lgc_ne.mp hc)
    refine G.aload_n C 0 dX9_print_17 rfl rfl ?_
    refine G.getR (k := 8) C k_X9 (sc_0 hE) rfl (by decide) tg_487 dX9_print_18 ?_
    refine G.lload_n C 1 dX9_print_21 rfl rfl ?_
    obtain ⟨v_3, M_2, hv_1, h⟩ := bd2_ex h
    refine G.callV (rest := []) C (s_X0_addPrint_50 hE  hv_1) ⟨tg_1305, tg_98, ok_X0_addPrint, Nat.le_of_ble_eq_true rfl, Nat.le_of_ble_eq_true rfl⟩ tg_1302 tg_1303 tg_1304 (sc_50 hE) rfl rfl (Nat.le_of_ble_eq_true rfl) dX9_print_22 ⟨Nat.le_refl 0, Nat.le_refl 0⟩ ?_
    cases h
    exact G.iret C hr dX9_print_25
  · have h := it_t h (lgc_eq.mp hc)
    cases h
def f_X9_print_0 (x1 : Int64) (M : Mm) : Option (Int32 × Mm) := bb_X9_print_0_0 x1 M
theorem s_X9_print_0 {l : Launch} {E : Ev} {x1 : Int64} {M : Mm} {v : Int32} {M' : Mm} (hE : Has shC (eH E)) (h : f_X9_print_0 x1 M = some (v, M')) : MetA l yX9_print cX9_print 3 (some .int) 2 E [.ref (eA E 0), .long x1] M (some (.int v)) M' := by
  refine MetA.of (by decide +kernel) (Nat.le_of_ble_eq_true rfl) ?_
  intro p e s m below meth c C hr hnm
  exact G.sub [0, 1] rfl (gb_X9_print_0_0 hE C hr  h)
def bb_X9_kin_0_0 (x1 : Int32) (x2 : Int32) (x3 : Int32) (x4 : Int32) (M : Mm) : Option (Int32 × Mm) := bd (f_X9_needPrint_0 x1 M) fun _ => bd (f_X9_needPrint_0 x2 M) fun _ => bd (f_X9_needRange x3 (0 : Int32) (64 : Int32)) fun _ => bd (f_X5_lay_44_50 x3 x4 M) fun M_8 => bd (f_X5_areKin_44 x1 x2 M_8) fun v_10 => gd (isB v_10) (some (v_10, M_8))
set_option maxHeartbeats 4000000 in
set_option maxRecDepth 100000 in
theorem gb_X9_kin_0_0  {x1 : Int32} {x2 : Int32} {x3 : Int32} {x4 : Int32} {M : Mm} {v : Int32} {M' : Mm} (hE : Has shC (eH E)) (C : Cx RX9 cX9_kin 5 p (rmD 5) s m args meth c E) (hr : meth.sig.returnType = (some .boolean)) (h : bb_X9_kin_0_0 x1 x2 x3 x4 M = some (v, M')) : G p l e (rmD 5) s m args below meth c E 5 0 0 (QR below args s E 0 0 (some (.int v)) M') 0 [(0, .ref (eA E 0)), (1, .int x1), (2, .int x2), (3, .int x3), (4, .int x4)] [] M := by
  unfold bb_X9_kin_0_0 at h
  refine G.aload_n C 0 dX9_kin_0 rfl rfl ?_
  refine G.iload_n C 1 dX9_kin_1 rfl rfl ?_
  obtain ⟨u_2, hv_1, h⟩ := bd_ex h
  refine G.callV (rest := []) C (s_X9_needPrint_0 hE  hv_1) ⟨tg_1316, tg_90, ok_X9_needPrint, Nat.le_of_ble_eq_true rfl, Nat.le_of_ble_eq_true rfl⟩ tg_1313 tg_1315 tg_40 (sc_0 hE) rfl rfl (Nat.le_of_ble_eq_true rfl) dX9_kin_2 ⟨Nat.le_refl 0, Nat.le_refl 0⟩ ?_
  refine G.aload_n C 0 dX9_kin_5 rfl rfl ?_
  refine G.iload_n C 2 dX9_kin_6 rfl rfl ?_
  obtain ⟨u_4, hv_3, h⟩ := bd_ex h
  refine G.callV (rest := []) C (s_X9_needPrint_0 hE  hv_3) ⟨tg_1316, tg_90, ok_X9_needPrint, Nat.le_of_ble_eq_true rfl, Nat.le_of_ble_eq_true rfl⟩ tg_1313 tg_1315 tg_40 (sc_0 hE) rfl rfl (Nat.le_of_ble_eq_true rfl) dX9_kin_7 ⟨Nat.le_refl 0, Nat.le_refl 0⟩ ?_
  refine G.iload_n C 3 dX9_kin_10 rfl rfl ?_
  refine G.iconst (v := (0 : Int32)) C dX9_kin_11 (by decide) ?_
  refine G.bipush (v := (64 : Int32)) C dX9_kin_12 (by decide) ?_
  obtain ⟨u_6, hv_5, h⟩ := bd_ex h
  refine G.callS (rest := []) C (s_X9_needRange  hv_5) ⟨tg_641, tg_90, ok_X9_needRange, Nat.le_of_ble_eq_true rfl, Nat.le_of_ble_eq_true rfl⟩ tg_639 tg_640 rfl (Nat.le_of_ble_eq_true rfl) dX9_kin_14 ⟨Nat.le_refl 0, Nat.le_refl 0⟩ ?_
  refine G.aload_n C 0 dX9_kin_17 rfl rfl ?_
  refine G.getR (k := 7) C k_X9 (sc_0 hE) rfl (by decide) tg_486 dX9_kin_18 ?_
  refine G.aload_n C 0 dX9_kin_21 rfl rfl ?_
  refine G.getR (k := 8) C k_X9 (sc_0 hE) rfl (by decide) tg_487 dX9_kin_22 ?_
  refine G.iload_n C 3 dX9_kin_25 rfl rfl ?_
  refine G.iload C 4 dX9_kin_26 rfl ?_
  obtain ⟨M_8, hv_7, h⟩ := bd_ex h
  refine G.callV (rest := []) C (s_X5_lay_44_50 hE  hv_7) ⟨tg_1321, tg_97, ok_X5_lay, Nat.le_of_ble_eq_true rfl, Nat.le_of_ble_eq_true rfl⟩ tg_1318 tg_1319 tg_1320 (sc_44 hE) rfl rfl (Nat.le_of_ble_eq_true rfl) dX9_kin_28 ⟨Nat.le_refl 0, Nat.le_refl 0⟩ ?_
  refine G.aload_n C 0 dX9_kin_31 rfl rfl ?_
  refine G.getR (k := 7) C k_X9 (sc_0 hE) rfl (by decide) tg_486 dX9_kin_32 ?_
  refine G.iload_n C 1 dX9_kin_35 rfl rfl ?_
  refine G.iload_n C 2 dX9_kin_36 rfl rfl ?_
  obtain ⟨v_10, hv_9, h⟩ := bd_ex h
  refine G.callV (rest := []) C (s_X5_areKin_44 hE  hv_9) ⟨tg_1332, tg_97, ok_X5_areKin, Nat.le_of_ble_eq_true rfl, Nat.le_of_ble_eq_true rfl⟩ tg_1329 tg_1330 tg_1331 (sc_44 hE) rfl rfl (Nat.le_of_ble_eq_true rfl) dX9_kin_37 ⟨Nat.le_refl 0, Nat.le_refl 0⟩ ?_
  obtain ⟨hb_11, h⟩ := gd_ex h
  cases h
  exact G.zret C hr (nz_ok (isB_s hb_11)) dX9_kin_40
def f_X9_kin_0 (x1 : Int32) (x2 : Int32) (x3 : Int32) (x4 : Int32) (M : Mm) : Option (Int32 × Mm) := bb_X9_kin_0_0 x1 x2 x3 x4 M
theorem s_X9_kin_0 {l : Launch} {E : Ev} {x1 : Int32} {x2 : Int32} {x3 : Int32} {x4 : Int32} {M : Mm} {v : Int32} {M' : Mm} (hE : Has shC (eH E)) (h : f_X9_kin_0 x1 x2 x3 x4 M = some (v, M')) : MetA l yX9_kin cX9_kin 5 (some .boolean) 5 E [.ref (eA E 0), .int x1, .int x2, .int x3, .int x4] M (some (.int v)) M' := by
  refine MetA.of (by decide +kernel) (Nat.le_of_ble_eq_true rfl) ?_
  intro p e s m below meth c C hr hnm
  exact G.sub [0, 1, 2, 3, 4] rfl (gb_X9_kin_0_0 hE C hr  h)
def bb_X9_partings_0_0 (x1 : Int32) (x2 : Int32) (x3 : Int32) (M : Mm) : Option (Int32 × Mm) := bd (f_X9_needRange x1 (0 : Int32) (64 : Int32)) fun _ => bd (f_X9_needRange x3 (0 : Int32) (2 : Int32)) fun _ => bd (f_X5_lay_44_50 x1 x2 M) fun M_6 => if x3 = (2 : Int32) then (bd (f_X5_alwaysAlone_44 M_6) fun v_14 => some (v_14, M_6)) else (if x3 = 0 then (bd2 (f_X5_ways_44 M_6) fun v_12 M_11 => some (v_12, M_11)) else (bd2 (f_X5_fewest_44 M_6) fun v_9 M_8 => some (v_9, M_8)))
set_option maxHeartbeats 4000000 in
set_option maxRecDepth 100000 in
theorem gb_X9_partings_0_0  {x1 : Int32} {x2 : Int32} {x3 : Int32} {M : Mm} {v : Int32} {M' : Mm} (hE : Has shC (eH E)) (C : Cx RX9 cX9_partings 4 p (rmD 5) s m args meth c E) (hr : meth.sig.returnType = (some .int)) (h : bb_X9_partings_0_0 x1 x2 x3 M = some (v, M')) : G p l e (rmD 5) s m args below meth c E 4 0 0 (QR below args s E 0 0 (some (.int v)) M') 0 [(0, .ref (eA E 0)), (1, .int x1), (2, .int x2), (3, .int x3)] [] M := by
  unfold bb_X9_partings_0_0 at h
  refine G.iload_n C 1 dX9_partings_0 rfl rfl ?_
  refine G.iconst (v := (0 : Int32)) C dX9_partings_1 (by decide) ?_
  refine G.bipush (v := (64 : Int32)) C dX9_partings_2 (by decide) ?_
  obtain ⟨u_2, hv_1, h⟩ := bd_ex h
  refine G.callS (rest := []) C (s_X9_needRange  hv_1) ⟨tg_641, tg_90, ok_X9_needRange, Nat.le_of_ble_eq_true rfl, Nat.le_of_ble_eq_true rfl⟩ tg_639 tg_640 rfl (Nat.le_of_ble_eq_true rfl) dX9_partings_4 ⟨Nat.le_refl 0, Nat.le_refl 0⟩ ?_
  refine G.iload_n C 3 dX9_partings_7 rfl rfl ?_
  refine G.iconst (v := (0 : Int32)) C dX9_partings_8 (by decide) ?_
  refine G.iconst (v := (2 : Int32)) C dX9_partings_9 (by decide) ?_
  obtain ⟨u_4, hv_3, h⟩ := bd_ex h
  refine G.callS (rest := []) C (s_X9_needRange  hv_3) ⟨tg_641, tg_90, ok_X9_needRange, Nat.le_of_ble_eq_true rfl, Nat.le_of_ble_eq_true rfl⟩ tg_639 tg_640 rfl (Nat.le_of_ble_eq_true rfl) dX9_partings_10 ⟨Nat.le_refl 0, Nat.le_refl 0⟩ ?_
  refine G.aload_n C 0 dX9_partings_13 rfl rfl ?_
  refine G.getR (k := 7) C k_X9 (sc_0 hE) rfl (by decide) tg_486 dX9_partings_14 ?_
  refine G.aload_n C 0 dX9_partings_17 rfl rfl ?_
  refine G.getR (k := 8) C k_X9 (sc_0 hE) rfl (by decide) tg_487 dX9_partings_18 ?_
  refine G.iload_n C 1 dX9_partings_21 rfl rfl ?_
  refine G.iload_n C 2 dX9_partings_22 rfl rfl ?_
  obtain ⟨M_6, hv_5, h⟩ := bd_ex h
  refine G.callV (rest := []) C (s_X5_lay_44_50 hE  hv_5) ⟨tg_1321, tg_97, ok_X5_lay, Nat.le_of_ble_eq_true rfl, Nat.le_of_ble_eq_true rfl⟩ tg_1318 tg_1319 tg_1320 (sc_44 hE) rfl rfl (Nat.le_of_ble_eq_true rfl) dX9_partings_23 ⟨Nat.le_refl 0, Nat.le_refl 0⟩ ?_
  refine G.iload_n C 3 dX9_partings_26 rfl rfl ?_
  refine G.iconst (v := (2 : Int32)) C dX9_partings_27 (by decide) ?_
  refine G.icmp_ne (tgt := 39) C dX9_partings_28 (by decide) (fun hc => ?_) (fun hc => ?_)
  · have h := it_f h hc
    refine G.iload_n C 3 dX9_partings_39 rfl rfl ?_
    refine G.if_ne (tgt := 53) C dX9_partings_40 (by decide) (fun hc => ?_) (fun hc => ?_)
    · have h := it_f h hc
      refine G.aload_n C 0 dX9_partings_53 rfl rfl ?_
      refine G.getR (k := 7) C k_X9 (sc_0 hE) rfl (by decide) tg_486 dX9_partings_54 ?_
      obtain ⟨v_9, M_8, hv_7, h⟩ := bd2_ex h
      refine G.callV (rest := []) C (s_X5_fewest_44 hE  hv_7) ⟨tg_1364, tg_97, ok_X5_fewest, Nat.le_of_ble_eq_true rfl, Nat.le_of_ble_eq_true rfl⟩ tg_1361 tg_1362 tg_1363 (sc_44 hE) rfl rfl (Nat.le_of_ble_eq_true rfl) dX9_partings_57 ⟨Nat.le_refl 0, Nat.le_refl 0⟩ ?_
      cases h
      exact G.iret C hr dX9_partings_60
    · have h := it_t h hc
      refine G.aload_n C 0 dX9_partings_43 rfl rfl ?_
      refine G.getR (k := 7) C k_X9 (sc_0 hE) rfl (by decide) tg_486 dX9_partings_44 ?_
      obtain ⟨v_12, M_11, hv_10, h⟩ := bd2_ex h
      refine G.callV (rest := []) C (s_X5_ways_44 hE  hv_10) ⟨tg_1347, tg_97, ok_X5_ways, Nat.le_of_ble_eq_true rfl, Nat.le_of_ble_eq_true rfl⟩ tg_1344 tg_1345 tg_1346 (sc_44 hE) rfl rfl (Nat.le_of_ble_eq_true rfl) dX9_partings_47 ⟨Nat.le_refl 0, Nat.le_refl 0⟩ ?_
      refine G.goto (tgt := 60) C dX9_partings_50 (by decide) ?_
      cases h
      exact G.iret C hr dX9_partings_60
  · have h := it_t h hc
    refine G.aload_n C 0 dX9_partings_31 rfl rfl ?_
    refine G.getR (k := 7) C k_X9 (sc_0 hE) rfl (by decide) tg_486 dX9_partings_32 ?_
    obtain ⟨v_14, hv_13, h⟩ := bd_ex h
    refine G.callV (rest := []) C (s_X5_alwaysAlone_44 hE  hv_13) ⟨tg_1343, tg_97, ok_X5_alwaysAlone, Nat.le_of_ble_eq_true rfl, Nat.le_of_ble_eq_true rfl⟩ tg_1340 tg_1341 tg_1342 (sc_44 hE) rfl rfl (Nat.le_of_ble_eq_true rfl) dX9_partings_35 ⟨Nat.le_refl 0, Nat.le_refl 0⟩ ?_
    cases h
    exact G.iret C hr dX9_partings_38
def f_X9_partings_0 (x1 : Int32) (x2 : Int32) (x3 : Int32) (M : Mm) : Option (Int32 × Mm) := bb_X9_partings_0_0 x1 x2 x3 M
theorem s_X9_partings_0 {l : Launch} {E : Ev} {x1 : Int32} {x2 : Int32} {x3 : Int32} {M : Mm} {v : Int32} {M' : Mm} (hE : Has shC (eH E)) (h : f_X9_partings_0 x1 x2 x3 M = some (v, M')) : MetA l yX9_partings cX9_partings 4 (some .int) 5 E [.ref (eA E 0), .int x1, .int x2, .int x3] M (some (.int v)) M' := by
  refine MetA.of (by decide +kernel) (Nat.le_of_ble_eq_true rfl) ?_
  intro p e s m below meth c C hr hnm
  exact G.sub [0, 1, 2, 3] rfl (gb_X9_partings_0_0 hE C hr  h)
def bb_X9_bars_0_0 (x1 : Int32) (x2 : Int32) (x3 : Int32) (M : Mm) : Option (Int64 × Mm) := bd (f_X9_layCutting_0 x1 x2 x3 M) fun M_2 => bd (f_X2_begun_30 M_2) fun v_4 => some (v_4, M_2)
set_option maxHeartbeats 4000000 in
set_option maxRecDepth 100000 in
theorem gb_X9_bars_0_0  {x1 : Int32} {x2 : Int32} {x3 : Int32} {M : Mm} {v : Int64} {M' : Mm} (hE : Has shC (eH E)) (C : Cx RX9 cX9_bars 4 p (rmD 27) s m args meth c E) (hr : meth.sig.returnType = (some .long)) (h : bb_X9_bars_0_0 x1 x2 x3 M = some (v, M')) : G p l e (rmD 27) s m args below meth c E 4 0 0 (QR below args s E 0 0 (some (.long v)) M') 0 [(0, .ref (eA E 0)), (1, .int x1), (2, .int x2), (3, .int x3)] [] M := by
  unfold bb_X9_bars_0_0 at h
  refine G.aload_n C 0 dX9_bars_0 rfl rfl ?_
  refine G.iload_n C 1 dX9_bars_1 rfl rfl ?_
  refine G.iload_n C 2 dX9_bars_2 rfl rfl ?_
  refine G.iload_n C 3 dX9_bars_3 rfl rfl ?_
  obtain ⟨M_2, hv_1, h⟩ := bd_ex h
  refine G.callV (rest := []) C (s_X9_layCutting_0 hE  hv_1) ⟨tg_1138, tg_90, ok_X9_layCutting, Nat.le_of_ble_eq_true rfl, Nat.le_of_ble_eq_true rfl⟩ tg_1135 tg_1137 tg_28 (sc_0 hE) rfl rfl (Nat.le_of_ble_eq_true rfl) dX9_bars_4 ⟨Nat.le_refl 0, Nat.le_refl 0⟩ ?_
  refine G.aload_n C 0 dX9_bars_7 rfl rfl ?_
  refine G.getR (k := 5) C k_X9 (sc_0 hE) rfl (by decide) tg_484 dX9_bars_8 ?_
  obtain ⟨v_4, hv_3, h⟩ := bd_ex h
  refine G.callV (rest := []) C (s_X2_begun_30 hE  hv_3) ⟨tg_1375, tg_95, ok_X2_begun, Nat.le_of_ble_eq_true rfl, Nat.le_of_ble_eq_true rfl⟩ tg_1372 tg_1373 tg_1374 (sc_30 hE) rfl rfl (Nat.le_of_ble_eq_true rfl) dX9_bars_11 ⟨Nat.le_refl 0, Nat.le_refl 0⟩ ?_
  cases h
  exact G.lret C hr dX9_bars_14
def f_X9_bars_0 (x1 : Int32) (x2 : Int32) (x3 : Int32) (M : Mm) : Option (Int64 × Mm) := bb_X9_bars_0_0 x1 x2 x3 M
theorem s_X9_bars_0 {l : Launch} {E : Ev} {x1 : Int32} {x2 : Int32} {x3 : Int32} {M : Mm} {v : Int64} {M' : Mm} (hE : Has shC (eH E)) (h : f_X9_bars_0 x1 x2 x3 M = some (v, M')) : MetA l yX9_bars cX9_bars 4 (some .long) 27 E [.ref (eA E 0), .int x1, .int x2, .int x3] M (some (.long v)) M' := by
  refine MetA.of (by decide +kernel) (Nat.le_of_ble_eq_true rfl) ?_
  intro p e s m below meth c C hr hnm
  exact G.sub [0, 1, 2, 3] rfl (gb_X9_bars_0_0 hE C hr  h)
def bb_X9_nearest_0_0 (x1 : Int64) (x3 : Int32) (x4 : Int32) (M : Mm) : Option Int32 := if x1 = (0 : Int64) then (none) else (bd (f_X9_needRange x4 (0 : Int32) (1 : Int32)) fun _ => bd (f_X1_nearestTo_24 x1 x3 M) fun v_4 => if x4 = 0 then (some v_4) else (if v_4 = (-1 : Int32) then (some v_4) else (bd (f_X1_apartFrom_24 v_4 x1 x3 M) fun v_6 => some v_6)))
set_option maxHeartbeats 4000000 in
set_option maxRecDepth 100000 in
theorem gb_X9_nearest_0_0  {x1 : Int64} {x3 : Int32} {x4 : Int32} {M : Mm} {v : Int32} (hE : Has shC (eH E)) (C : Cx RX9 cX9_nearest 6 p (rmD 5) s m args meth c E) (hr : meth.sig.returnType = (some .int)) (h : bb_X9_nearest_0_0 x1 x3 x4 M = some v) : G p l e (rmD 5) s m args below meth c E 6 0 0 (QR below args s E 0 0 (some (.int v)) M) 0 [(0, .ref (eA E 0)), (1, .long x1), (3, .int x3), (4, .int x4)] [] M := by
  unfold bb_X9_nearest_0_0 at h
  refine G.lload_n C 1 dX9_nearest_0 rfl rfl ?_
  refine G.lconst (v := (0 : Int64)) C dX9_nearest_1 (by decide) ?_
  refine G.lcmp C dX9_nearest_2 (G.if_ne (tgt := 17) C dX9_nearest_3 (by decide) (fun hc => ?_) (fun hc => ?_))
  · have h := it_f h (lgc_ne.mp hc)
    refine G.iload C 3 dX9_nearest_17 rfl ?_
    refine G.iconst (v := (0 : Int32)) C dX9_nearest_19 (by decide) ?_
    refine G.iconst (v := (1 : Int32)) C dX9_nearest_20 (by decide) ?_
    obtain ⟨u_2, hv_1, h⟩ := bd_ex h
    refine G.callS (rest := []) C (s_X9_needRange  hv_1) ⟨tg_641, tg_90, ok_X9_needRange, Nat.le_of_ble_eq_true rfl, Nat.le_of_ble_eq_true rfl⟩ tg_639 tg_640 rfl (Nat.le_of_ble_eq_true rfl) dX9_nearest_21 ⟨Nat.le_refl 0, Nat.le_refl 0⟩ ?_
    refine G.aload_n C 0 dX9_nearest_24 rfl rfl ?_
    refine G.getR (k := 4) C k_X9 (sc_0 hE) rfl (by decide) tg_483 dX9_nearest_25 ?_
    refine G.lload_n C 1 dX9_nearest_28 rfl rfl ?_
    refine G.iload_n C 2 dX9_nearest_29 rfl rfl ?_
    obtain ⟨v_4, hv_3, h⟩ := bd_ex h
    refine G.callV (rest := []) C (s_X1_nearestTo_24 hE  hv_3) ⟨tg_1386, tg_94, ok_X1_nearestTo, Nat.le_of_ble_eq_true rfl, Nat.le_of_ble_eq_true rfl⟩ tg_1383 tg_1384 tg_1385 (sc_24 hE) rfl rfl (Nat.le_of_ble_eq_true rfl) dX9_nearest_30 ⟨Nat.le_refl 0, Nat.le_refl 0⟩ ?_
    refine G.istore (L' := [(5, .int v_4), (0, .ref (eA E 0)), (1, .long x1), (3, .int x3), (4, .int x4)]) C dX9_nearest_33 rfl (by decide) rfl ?_
    refine G.iload C 4 dX9_nearest_35 rfl ?_
    refine G.if_eq (tgt := 46) C dX9_nearest_37 (by decide) (fun hc => ?_) (fun hc => ?_)
    · have h := it_t h hc
      refine G.iload C 0 dX9_nearest_46 rfl ?_
      refine G.goto (tgt := 62) C dX9_nearest_48 (by decide) ?_
      cases h
      exact G.iret C hr dX9_nearest_62
    · have h := it_f h hc
      refine G.iload C 0 dX9_nearest_40 rfl ?_
      refine G.iconst (v := (-1 : Int32)) C dX9_nearest_42 (by decide) ?_
      refine G.icmp_ne (tgt := 51) C dX9_nearest_43 (by decide) (fun hc => ?_) (fun hc => ?_)
      · have h := it_f h hc
        refine G.aload_n C 1 dX9_nearest_51 rfl rfl ?_
        refine G.getR (k := 4) C k_X9 (sc_0 hE) rfl (by decide) tg_483 dX9_nearest_52 ?_
        refine G.iload C 0 dX9_nearest_55 rfl ?_
        refine G.lload_n C 2 dX9_nearest_57 rfl rfl ?_
        refine G.iload_n C 3 dX9_nearest_58 rfl rfl ?_
        obtain ⟨v_6, hv_5, h⟩ := bd_ex h
        refine G.callV (rest := []) C (s_X1_apartFrom_24 hE  hv_5) ⟨tg_1390, tg_94, ok_X1_apartFrom, Nat.le_of_ble_eq_true rfl, Nat.le_of_ble_eq_true rfl⟩ tg_1392 tg_1388 tg_1389 (sc_24 hE) rfl rfl (Nat.le_of_ble_eq_true rfl) dX9_nearest_59 ⟨Nat.le_refl 0, Nat.le_refl 0⟩ ?_
        cases h
        exact G.iret C hr dX9_nearest_62
      · have h := it_t h hc
        refine G.iload C 0 dX9_nearest_46 rfl ?_
        refine G.goto (tgt := 62) C dX9_nearest_48 (by decide) ?_
        cases h
        exact G.iret C hr dX9_nearest_62
  · have h := it_t h (lgc_eq.mp hc)
    cases h
def f_X9_nearest_0 (x1 : Int64) (x3 : Int32) (x4 : Int32) (M : Mm) : Option Int32 := bb_X9_nearest_0_0 x1 x3 x4 M
theorem s_X9_nearest_0 {l : Launch} {E : Ev} {x1 : Int64} {x3 : Int32} {x4 : Int32} {M : Mm} {v : Int32} (hE : Has shC (eH E)) (h : f_X9_nearest_0 x1 x3 x4 M = some v) : MetA l yX9_nearest cX9_nearest 6 (some .int) 5 E [.ref (eA E 0), .long x1, .int x3, .int x4] M (some (.int v)) M := by
  refine MetA.of (by decide +kernel) (Nat.le_of_ble_eq_true rfl) ?_
  intro p e s m below meth c C hr hnm
  exact G.sub [0, 1, 2, 3] rfl (gb_X9_nearest_0_0 hE C hr  h)
def bb_X9_originals_0_0 (x1 : Int32) (x2 : Int32) (M : Mm) : Option (Int32 × Mm) := bd (f_X9_needRange x2 (0 : Int32) (1 : Int32)) fun _ => bd2 (f_X1_originalLetters_24_11 x1 M) fun v_5 M_4 => if x2 = 0 then (bd (f_J6_bitCount_0f7a4 v_5) fun v_7 => some (v_7, M_4)) else (some (v_5, M_4))
set_option maxHeartbeats 4000000 in
set_option maxRecDepth 100000 in
theorem gb_X9_originals_0_0  {x1 : Int32} {x2 : Int32} {M : Mm} {v : Int32} {M' : Mm} (hE : Has shC (eH E)) (C : Cx RX9 cX9_originals 4 p (rmD 6) s m args meth c E) (hr : meth.sig.returnType = (some .int)) (h : bb_X9_originals_0_0 x1 x2 M = some (v, M')) : G p l e (rmD 6) s m args below meth c E 4 0 0 (QR below args s E 0 0 (some (.int v)) M') 0 [(0, .ref (eA E 0)), (1, .int x1), (2, .int x2)] [] M := by
  unfold bb_X9_originals_0_0 at h
  refine G.iload_n C 2 dX9_originals_0 rfl rfl ?_
  refine G.iconst (v := (0 : Int32)) C dX9_originals_1 (by decide) ?_
  refine G.iconst (v := (1 : Int32)) C dX9_originals_2 (by decide) ?_
  obtain ⟨u_2, hv_1, h⟩ := bd_ex h
  refine G.callS (rest := []) C (s_X9_needRange  hv_1) ⟨tg_641, tg_90, ok_X9_needRange, Nat.le_of_ble_eq_true rfl, Nat.le_of_ble_eq_true rfl⟩ tg_639 tg_640 rfl (Nat.le_of_ble_eq_true rfl) dX9_originals_3 ⟨Nat.le_refl 0, Nat.le_refl 0⟩ ?_
  refine G.aload_n C 0 dX9_originals_6 rfl rfl ?_
  refine G.getR (k := 4) C k_X9 (sc_0 hE) rfl (by decide) tg_483 dX9_originals_7 ?_
  refine G.aload_n C 0 dX9_originals_10 rfl rfl ?_
  refine G.getR (k := 1) C k_X9 (sc_0 hE) rfl (by decide) tg_480 dX9_originals_11 ?_
  refine G.iload_n C 1 dX9_originals_14 rfl rfl ?_
  obtain ⟨v_5, M_4, hv_3, h⟩ := bd2_ex h
  refine G.callV (rest := []) C (s_X1_originalLetters_24_11 hE  hv_3) ⟨tg_1403, tg_94, ok_X1_originalLetters, Nat.le_of_ble_eq_true rfl, Nat.le_of_ble_eq_true rfl⟩ tg_1400 tg_1401 tg_1402 (sc_24 hE) rfl rfl (Nat.le_of_ble_eq_true rfl) dX9_originals_15 ⟨Nat.le_refl 0, Nat.le_refl 0⟩ ?_
  refine G.istore_n (L' := [(3, .int v_5), (0, .ref (eA E 0)), (1, .int x1), (2, .int x2)]) C dX9_originals_18 rfl rfl (by decide) rfl ?_
  refine G.iload_n C 3 dX9_originals_19 rfl rfl ?_
  refine G.if_ne (tgt := 30) C dX9_originals_20 (by decide) (fun hc => ?_) (fun hc => ?_)
  · have h := it_f h hc
    refine G.iload_n C 0 dX9_originals_30 rfl rfl ?_
    cases h
    exact G.iret C hr dX9_originals_31
  · have h := it_t h hc
    refine G.iload_n C 0 dX9_originals_23 rfl rfl ?_
    obtain ⟨v_7, hv_6, h⟩ := bd_ex h
    refine G.callS (rest := []) C (s_J6_bitCount_0f7a4  hv_6) ⟨tg_998, tg_115, ok_J6_bitCount_0f7a4, Nat.le_of_ble_eq_true rfl, Nat.le_of_ble_eq_true rfl⟩ tg_996 tg_997 rfl (Nat.le_of_ble_eq_true rfl) dX9_originals_24 ⟨Nat.le_refl 0, Nat.le_refl 0⟩ ?_
    refine G.goto (tgt := 31) C dX9_originals_27 (by decide) ?_
    cases h
    exact G.iret C hr dX9_originals_31
def f_X9_originals_0 (x1 : Int32) (x2 : Int32) (M : Mm) : Option (Int32 × Mm) := bb_X9_originals_0_0 x1 x2 M
theorem s_X9_originals_0 {l : Launch} {E : Ev} {x1 : Int32} {x2 : Int32} {M : Mm} {v : Int32} {M' : Mm} (hE : Has shC (eH E)) (h : f_X9_originals_0 x1 x2 M = some (v, M')) : MetA l yX9_originals cX9_originals 4 (some .int) 6 E [.ref (eA E 0), .int x1, .int x2] M (some (.int v)) M' := by
  refine MetA.of (by decide +kernel) (Nat.le_of_ble_eq_true rfl) ?_
  intro p e s m below meth c C hr hnm
  exact G.sub [0, 1, 2] rfl (gb_X9_originals_0_0 hE C hr  h)
def bb_X9_fount_0_0 (x1 : Int32) (x2 : Int32) (x3 : Int32) (M : Mm) : Option (Int32 × Mm) := bd (f_X9_needRange x1 (1 : Int32) (511 : Int32)) fun _ => bd (f_X9_needRange x2 (0 : Int32) (99 : Int32)) fun _ => bd (f_X6_sizeGroups x1 x2) fun v_6 => bd2 (f_X1_leastSet_24 (0 : Int32) x3 M) fun v_9 M_8 => bd (f_J6_bitCount_0f7a4 v_9) fun v_11 => some (v_6 * v_11, M_8)
set_option maxHeartbeats 4000000 in
set_option maxRecDepth 100000 in
theorem gb_X9_fount_0_0  {x1 : Int32} {x2 : Int32} {x3 : Int32} {M : Mm} {v : Int32} {M' : Mm} (hE : Has shC (eH E)) (C : Cx RX9 cX9_fount 4 p (rmD 23) s m args meth c E) (hr : meth.sig.returnType = (some .int)) (h : bb_X9_fount_0_0 x1 x2 x3 M = some (v, M')) : G p l e (rmD 23) s m args below meth c E 4 0 0 (QR below args s E 0 0 (some (.int v)) M') 0 [(0, .ref (eA E 0)), (1, .int x1), (2, .int x2), (3, .int x3)] [] M := by
  unfold bb_X9_fount_0_0 at h
  refine G.iload_n C 1 dX9_fount_0 rfl rfl ?_
  refine G.iconst (v := (1 : Int32)) C dX9_fount_1 (by decide) ?_
  refine G.sipush (v := (511 : Int32)) C dX9_fount_2 (by decide) ?_
  obtain ⟨u_2, hv_1, h⟩ := bd_ex h
  refine G.callS (rest := []) C (s_X9_needRange  hv_1) ⟨tg_641, tg_90, ok_X9_needRange, Nat.le_of_ble_eq_true rfl, Nat.le_of_ble_eq_true rfl⟩ tg_639 tg_640 rfl (Nat.le_of_ble_eq_true rfl) dX9_fount_5 ⟨Nat.le_refl 0, Nat.le_refl 0⟩ ?_
  refine G.iload_n C 2 dX9_fount_8 rfl rfl ?_
  refine G.iconst (v := (0 : Int32)) C dX9_fount_9 (by decide) ?_
  refine G.bipush (v := (99 : Int32)) C dX9_fount_10 (by decide) ?_
  obtain ⟨u_4, hv_3, h⟩ := bd_ex h
  refine G.callS (rest := []) C (s_X9_needRange  hv_3) ⟨tg_641, tg_90, ok_X9_needRange, Nat.le_of_ble_eq_true rfl, Nat.le_of_ble_eq_true rfl⟩ tg_639 tg_640 rfl (Nat.le_of_ble_eq_true rfl) dX9_fount_12 ⟨Nat.le_refl 0, Nat.le_refl 0⟩ ?_
  refine G.iload_n C 1 dX9_fount_15 rfl rfl ?_
  refine G.iload_n C 2 dX9_fount_16 rfl rfl ?_
  obtain ⟨v_6, hv_5, h⟩ := bd_ex h
  refine G.callS (rest := []) C (s_X6_sizeGroups  hv_5) ⟨tg_1418, tg_96, ok_X6_sizeGroups, Nat.le_of_ble_eq_true rfl, Nat.le_of_ble_eq_true rfl⟩ tg_1416 tg_1417 rfl (Nat.le_of_ble_eq_true rfl) dX9_fount_17 ⟨Nat.le_refl 0, Nat.le_refl 0⟩ ?_
  refine G.aload_n C 0 dX9_fount_20 rfl rfl ?_
  refine G.getR (k := 4) C k_X9 (sc_0 hE) rfl (by decide) tg_483 dX9_fount_21 ?_
  refine G.iconst (v := (0 : Int32)) C dX9_fount_24 (by decide) ?_
  refine G.iload_n C 3 dX9_fount_25 rfl rfl ?_
  obtain ⟨v_9, M_8, hv_7, h⟩ := bd2_ex h
  refine G.callV (rest := [.int v_6]) C (s_X1_leastSet_24 hE  hv_7) ⟨tg_983, tg_94, ok_X1_leastSet, Nat.le_of_ble_eq_true rfl, Nat.le_of_ble_eq_true rfl⟩ tg_980 tg_981 tg_982 (sc_24 hE) rfl rfl (Nat.le_of_ble_eq_true rfl) dX9_fount_26 ⟨Nat.le_refl 0, Nat.le_refl 0⟩ ?_
  obtain ⟨v_11, hv_10, h⟩ := bd_ex h
  refine G.callS (rest := [.int v_6]) C (s_J6_bitCount_0f7a4  hv_10) ⟨tg_998, tg_115, ok_J6_bitCount_0f7a4, Nat.le_of_ble_eq_true rfl, Nat.le_of_ble_eq_true rfl⟩ tg_996 tg_997 rfl (Nat.le_of_ble_eq_true rfl) dX9_fount_29 ⟨Nat.le_refl 0, Nat.le_refl 0⟩ ?_
  refine G.imul C dX9_fount_32 ?_
  cases h
  exact G.iret C hr dX9_fount_33
def f_X9_fount_0 (x1 : Int32) (x2 : Int32) (x3 : Int32) (M : Mm) : Option (Int32 × Mm) := bb_X9_fount_0_0 x1 x2 x3 M
theorem s_X9_fount_0 {l : Launch} {E : Ev} {x1 : Int32} {x2 : Int32} {x3 : Int32} {M : Mm} {v : Int32} {M' : Mm} (hE : Has shC (eH E)) (h : f_X9_fount_0 x1 x2 x3 M = some (v, M')) : MetA l yX9_fount cX9_fount 4 (some .int) 23 E [.ref (eA E 0), .int x1, .int x2, .int x3] M (some (.int v)) M' := by
  refine MetA.of (by decide +kernel) (Nat.le_of_ble_eq_true rfl) ?_
  intro p e s m below meth c C hr hnm
  exact G.sub [0, 1, 2, 3] rfl (gb_X9_fount_0_0 hE C hr  h)
end
