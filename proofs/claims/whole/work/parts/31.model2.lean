section
variable {p : Program} {l : Launch} {e : Env} {s : State} {m : MethodId} {args : Array Value} {below : List Frame} {meth : Method} {c : Code} {E : Ev}
def bb_X10_told_67_20 (x1 : Int32) (s1 : Int32) (M : Mm) : Option (Int32 × Mm) := bd2 (f_X10_bad_67 s1 (1 : Int32) M) fun v_6 M_5 => if v_6 = 0 then (if (2 : Int32) ≤ x1 then (some (M_5.1 67 19, M_5)) else (gd (inb x1 2) (some (M_5.1 70 (ix x1), M_5)))) else (some ((0 : Int32), M_5))
set_option maxHeartbeats 4000000 in
set_option maxRecDepth 100000 in
theorem gb_X10_told_67_20  {x1 : Int32} {s1 : Int32} {M : Mm} {v : Int32} {M' : Mm} (hE : Has shM (eH E)) (C : Cx RX10 cX10_told 2 p (rmD 2) s m args meth c E) (hr : meth.sig.returnType = (some .int)) (h : bb_X10_told_67_20 x1 s1 M = some (v, M')) : G p l e (rmD 2) s m args below meth c E 2 0 0 (QR below args s E 0 0 (some (.int v)) M') 20 [(0, .ref (eA E 67)), (1, .int x1)] [.int s1, .ref (eA E 67)] M := by
  unfold bb_X10_told_67_20 at h
  refine G.iconst (v := (1 : Int32)) C dX10_told_20 (by decide) ?_
  obtain ⟨v_6, M_5, hv_4, h⟩ := bd2_ex h
  refine G.callV (rest := []) C (s_X10_bad_67 hE  hv_4) ⟨tg_1600, tg_103, ok_X10_bad, Nat.le_of_ble_eq_true rfl, Nat.le_of_ble_eq_true rfl⟩ tg_1597 tg_1599 tg_46 (sm_67 hE) rfl rfl (Nat.le_of_ble_eq_true rfl) dX10_told_21 ⟨Nat.le_refl 0, Nat.le_refl 0⟩ ?_
  refine G.if_eq (tgt := 29) C dX10_told_24 (by decide) (fun hc => ?_) (fun hc => ?_)
  · have h := it_t h hc
    refine G.iload_n C 1 dX10_told_29 rfl rfl ?_
    refine G.iconst (v := (2 : Int32)) C dX10_told_30 (by decide) ?_
    refine G.icmp_ge (tgt := 43) C dX10_told_31 (by decide) (fun hc => ?_) (fun hc => ?_)
    · have h := it_t h hc
      refine G.aload_n C 0 dX10_told_43 rfl rfl ?_
      refine G.getI (k := 19) C k_X10 (sm_67 hE) rfl (by decide) tg_1450 dX10_told_44 ?_
      cases h
      exact G.iret C hr dX10_told_47
    · have h := it_f h hc
      refine G.aload_n C 0 dX10_told_34 rfl rfl ?_
      refine G.getR (k := 10) C k_X10 (sm_67 hE) rfl (by decide) tg_1441 dX10_told_35 ?_
      refine G.iload_n C 1 dX10_told_38 rfl rfl ?_
      obtain ⟨hg_7, h⟩ := gd_ex h
      refine G.aI (j := ix x1) C (sm_70 hE) hg_7 rfl dX10_told_39 ?_
      refine G.goto (tgt := 47) C dX10_told_40 (by decide) ?_
      cases h
      exact G.iret C hr dX10_told_47
  · have h := it_f h hc
    refine G.iconst (v := (0 : Int32)) C dX10_told_27 (by decide) ?_
    cases h
    exact G.iret C hr dX10_told_28
def bb_X10_told_67_0 (x1 : Int32) (M : Mm) : Option (Int32 × Mm) := ltv (wI M 67 0 (0 : Int32)) fun M_1 => bd (f_X10_in x1 (0 : Int32) (2 : Int32)) fun v_3 => if v_3 = 0 then (bb_X10_told_67_20 x1 (1 : Int32) M_1) else (bb_X10_told_67_20 x1 (0 : Int32) M_1)
set_option maxHeartbeats 4000000 in
set_option maxRecDepth 100000 in
theorem gb_X10_told_67_0  {x1 : Int32} {M : Mm} {v : Int32} {M' : Mm} (hE : Has shM (eH E)) (C : Cx RX10 cX10_told 2 p (rmD 2) s m args meth c E) (hr : meth.sig.returnType = (some .int)) (h : bb_X10_told_67_0 x1 M = some (v, M')) : G p l e (rmD 2) s m args below meth c E 2 0 0 (QR below args s E 0 0 (some (.int v)) M') 0 [(0, .ref (eA E 67)), (1, .int x1)] [] M := by
  unfold bb_X10_told_67_0 at h
  refine G.aload_n C 0 dX10_told_0 rfl rfl ?_
  refine G.iconst (v := (0 : Int32)) C dX10_told_1 (by decide) ?_
  obtain ⟨M_1, eM_1, h⟩ := ltv_ex h
  refine G.putI (k := 0) C k_X10 (sm_67 hE) rfl (by decide) tg_1431 rfl rfl dX10_told_2 eM_1 ?_
  refine G.aload_n C 0 dX10_told_5 rfl rfl ?_
  refine G.iload_n C 1 dX10_told_6 rfl rfl ?_
  refine G.iconst (v := (0 : Int32)) C dX10_told_7 (by decide) ?_
  refine G.iconst (v := (2 : Int32)) C dX10_told_8 (by decide) ?_
  obtain ⟨v_3, hv_2, h⟩ := bd_ex h
  refine G.callS (rest := [.ref (eA E 67)]) C (s_X10_in  hv_2) ⟨tg_1596, tg_103, ok_X10_in, Nat.le_of_ble_eq_true rfl, Nat.le_of_ble_eq_true rfl⟩ tg_1594 tg_1595 rfl (Nat.le_of_ble_eq_true rfl) dX10_told_9 ⟨Nat.le_refl 0, Nat.le_refl 0⟩ ?_
  refine G.if_ne (tgt := 19) C dX10_told_12 (by decide) (fun hc => ?_) (fun hc => ?_)
  · have h := it_f h hc
    refine G.iconst (v := (0 : Int32)) C dX10_told_19 (by decide) ?_
    exact G.sub [0, 1] rfl (gb_X10_told_67_20 hE C hr  h)
  · have h := it_t h hc
    refine G.iconst (v := (1 : Int32)) C dX10_told_15 (by decide) ?_
    refine G.goto (tgt := 20) C dX10_told_16 (by decide) ?_
    exact G.sub [0, 1] rfl (gb_X10_told_67_20 hE C hr  h)
def f_X10_told_67 (x1 : Int32) (M : Mm) : Option (Int32 × Mm) := bb_X10_told_67_0 x1 M
theorem s_X10_told_67 {l : Launch} {E : Ev} {x1 : Int32} {M : Mm} {v : Int32} {M' : Mm} (hE : Has shM (eH E)) (h : f_X10_told_67 x1 M = some (v, M')) : MetA l yX10_told cX10_told 2 (some .int) 2 E [.ref (eA E 67), .int x1] M (some (.int v)) M' := by
  refine MetA.of (by decide +kernel) (Nat.le_of_ble_eq_true rfl) ?_
  intro p e s m below meth c C hr hnm
  exact G.sub [0, 1] rfl (gb_X10_told_67_0 hE C hr  h)
def bb_X10_isLetter_67_0 (x1 : Int32) (M : Mm) : Option Int32 := bd (f_X10_in x1 (0 : Int32) ((M.1 70 0) - (1 : Int32))) fun v_2 => gd (isB v_2) (some v_2)
set_option maxHeartbeats 4000000 in
set_option maxRecDepth 100000 in
theorem gb_X10_isLetter_67_0  {x1 : Int32} {M : Mm} {v : Int32} (hE : Has shM (eH E)) (C : Cx RX10 cX10_isLetter 2 p (rmD 2) s m args meth c E) (hr : meth.sig.returnType = (some .boolean)) (h : bb_X10_isLetter_67_0 x1 M = some v) : G p l e (rmD 2) s m args below meth c E 2 0 0 (QR below args s E 0 0 (some (.int v)) M) 0 [(0, .ref (eA E 67)), (1, .int x1)] [] M := by
  unfold bb_X10_isLetter_67_0 at h
  refine G.iload_n C 1 dX10_isLetter_0 rfl rfl ?_
  refine G.iconst (v := (0 : Int32)) C dX10_isLetter_1 (by decide) ?_
  refine G.aload_n C 0 dX10_isLetter_2 rfl rfl ?_
  refine G.getR (k := 10) C k_X10 (sm_67 hE) rfl (by decide) tg_1441 dX10_isLetter_3 ?_
  refine G.iconst (v := (0 : Int32)) C dX10_isLetter_6 (by decide) ?_
  refine G.aI (j := 0) C (sm_70 hE) (by decide) (by decide) dX10_isLetter_7 ?_
  refine G.iconst (v := (1 : Int32)) C dX10_isLetter_8 (by decide) ?_
  refine G.isub C dX10_isLetter_9 ?_
  obtain ⟨v_2, hv_1, h⟩ := bd_ex h
  refine G.callS (rest := []) C (s_X10_in  hv_1) ⟨tg_1596, tg_103, ok_X10_in, Nat.le_of_ble_eq_true rfl, Nat.le_of_ble_eq_true rfl⟩ tg_1594 tg_1595 rfl (Nat.le_of_ble_eq_true rfl) dX10_isLetter_10 ⟨Nat.le_refl 0, Nat.le_refl 0⟩ ?_
  obtain ⟨hb_3, h⟩ := gd_ex h
  cases h
  exact G.zret C hr (nz_ok (isB_s hb_3)) dX10_isLetter_13
def f_X10_isLetter_67 (x1 : Int32) (M : Mm) : Option Int32 := bb_X10_isLetter_67_0 x1 M
theorem s_X10_isLetter_67 {l : Launch} {E : Ev} {x1 : Int32} {M : Mm} {v : Int32} (hE : Has shM (eH E)) (h : f_X10_isLetter_67 x1 M = some v) : MetA l yX10_isLetter cX10_isLetter 2 (some .boolean) 2 E [.ref (eA E 67), .int x1] M (some (.int v)) M := by
  refine MetA.of (by decide +kernel) (Nat.le_of_ble_eq_true rfl) ?_
  intro p e s m below meth c C hr hnm
  exact G.sub [0, 1] rfl (gb_X10_isLetter_67_0 hE C hr  h)
def bb_X10_squares_67_41 (x1 : Int32) (x2 : Int32) (s1 : Int32) (M : Mm) : Option (Int64 × Mm) := bd2 (f_X10_bad_67 s1 (2 : Int32) M) fun v_11 M_10 => if v_11 = 0 then (if x2 = 0 then (gd (inb x1 10) (some (M_10.2 72 (ix x1), M_10))) else (if x2 = (1 : Int32) then (gd (inb x1 10) (bd (f_X10_reached (M_10.2 72 (ix x1))) fun v_17 => some (v_17, M_10))) else (gd (inb x1 10) (bd (f_X10_hidden (M_10.2 72 (ix x1))) fun v_14 => some (v_14, M_10))))) else (some ((0 : Int64), M_10))
set_option maxHeartbeats 4000000 in
set_option maxRecDepth 100000 in
theorem gb_X10_squares_67_41  {x1 : Int32} {x2 : Int32} {s1 : Int32} {M : Mm} {v : Int64} {M' : Mm} (hE : Has shM (eH E)) (C : Cx RX10 cX10_squares 3 p (rmD 5) s m args meth c E) (hr : meth.sig.returnType = (some .long)) (h : bb_X10_squares_67_41 x1 x2 s1 M = some (v, M')) : G p l e (rmD 5) s m args below meth c E 3 0 0 (QR below args s E 0 0 (some (.long v)) M') 41 [(0, .ref (eA E 67)), (1, .int x1), (2, .int x2)] [.int s1, .ref (eA E 67)] M := by
  unfold bb_X10_squares_67_41 at h
  refine G.iconst (v := (2 : Int32)) C dX10_squares_41 (by decide) ?_
  obtain ⟨v_11, M_10, hv_9, h⟩ := bd2_ex h
  refine G.callV (rest := []) C (s_X10_bad_67 hE  hv_9) ⟨tg_1600, tg_103, ok_X10_bad, Nat.le_of_ble_eq_true rfl, Nat.le_of_ble_eq_true rfl⟩ tg_1597 tg_1599 tg_46 (sm_67 hE) rfl rfl (Nat.le_of_ble_eq_true rfl) dX10_squares_42 ⟨Nat.le_refl 0, Nat.le_refl 0⟩ ?_
  refine G.if_eq (tgt := 50) C dX10_squares_45 (by decide) (fun hc => ?_) (fun hc => ?_)
  · have h := it_t h hc
    refine G.iload_n C 2 dX10_squares_50 rfl rfl ?_
    refine G.if_ne (tgt := 63) C dX10_squares_51 (by decide) (fun hc => ?_) (fun hc => ?_)
    · have h := it_f h hc
      refine G.iload_n C 2 dX10_squares_63 rfl rfl ?_
      refine G.iconst (v := (1 : Int32)) C dX10_squares_64 (by decide) ?_
      refine G.icmp_ne (tgt := 80) C dX10_squares_65 (by decide) (fun hc => ?_) (fun hc => ?_)
      · have h := it_f h hc
        refine G.aload_n C 0 dX10_squares_80 rfl rfl ?_
        refine G.getR (k := 12) C k_X10 (sm_67 hE) rfl (by decide) tg_1443 dX10_squares_81 ?_
        refine G.iload_n C 1 dX10_squares_84 rfl rfl ?_
        obtain ⟨hg_12, h⟩ := gd_ex h
        refine G.aJ (j := ix x1) C (sm_72 hE) hg_12 rfl dX10_squares_85 ?_
        obtain ⟨v_14, hv_13, h⟩ := bd_ex h
        refine G.callS (rest := []) C (s_X10_hidden  hv_13) ⟨tg_1674, tg_103, ok_X10_hidden, Nat.le_of_ble_eq_true rfl, Nat.le_of_ble_eq_true rfl⟩ tg_1672 tg_1673 rfl (Nat.le_of_ble_eq_true rfl) dX10_squares_86 ⟨Nat.le_refl 0, Nat.le_refl 0⟩ ?_
        cases h
        exact G.lret C hr dX10_squares_89
      · have h := it_t h hc
        refine G.aload_n C 0 dX10_squares_68 rfl rfl ?_
        refine G.getR (k := 12) C k_X10 (sm_67 hE) rfl (by decide) tg_1443 dX10_squares_69 ?_
        refine G.iload_n C 1 dX10_squares_72 rfl rfl ?_
        obtain ⟨hg_15, h⟩ := gd_ex h
        refine G.aJ (j := ix x1) C (sm_72 hE) hg_15 rfl dX10_squares_73 ?_
        obtain ⟨v_17, hv_16, h⟩ := bd_ex h
        refine G.callS (rest := []) C (s_X10_reached  hv_16) ⟨tg_1677, tg_103, ok_X10_reached, Nat.le_of_ble_eq_true rfl, Nat.le_of_ble_eq_true rfl⟩ tg_1675 tg_1676 rfl (Nat.le_of_ble_eq_true rfl) dX10_squares_74 ⟨Nat.le_refl 0, Nat.le_refl 0⟩ ?_
        refine G.goto (tgt := 89) C dX10_squares_77 (by decide) ?_
        cases h
        exact G.lret C hr dX10_squares_89
    · have h := it_t h hc
      refine G.aload_n C 0 dX10_squares_54 rfl rfl ?_
      refine G.getR (k := 12) C k_X10 (sm_67 hE) rfl (by decide) tg_1443 dX10_squares_55 ?_
      refine G.iload_n C 1 dX10_squares_58 rfl rfl ?_
      obtain ⟨hg_18, h⟩ := gd_ex h
      refine G.aJ (j := ix x1) C (sm_72 hE) hg_18 rfl dX10_squares_59 ?_
      refine G.goto (tgt := 89) C dX10_squares_60 (by decide) ?_
      cases h
      exact G.lret C hr dX10_squares_89
  · have h := it_f h hc
    refine G.lconst (v := (0 : Int64)) C dX10_squares_48 (by decide) ?_
    cases h
    exact G.lret C hr dX10_squares_49
def bb_X10_squares_67_19 (x1 : Int32) (x2 : Int32) (s1 : Int32) (M : Mm) : Option (Int64 × Mm) := bd2 (f_X10_bad_67 s1 (1 : Int32) M) fun v_6 M_5 => if v_6 = 0 then (bd (f_X10_in x2 (0 : Int32) (2 : Int32)) fun v_8 => if v_8 = 0 then (bb_X10_squares_67_41 x1 x2 (1 : Int32) M_5) else (bb_X10_squares_67_41 x1 x2 (0 : Int32) M_5)) else (some ((0 : Int64), M_5))
set_option maxHeartbeats 4000000 in
set_option maxRecDepth 100000 in
theorem gb_X10_squares_67_19  {x1 : Int32} {x2 : Int32} {s1 : Int32} {M : Mm} {v : Int64} {M' : Mm} (hE : Has shM (eH E)) (C : Cx RX10 cX10_squares 3 p (rmD 5) s m args meth c E) (hr : meth.sig.returnType = (some .long)) (h : bb_X10_squares_67_19 x1 x2 s1 M = some (v, M')) : G p l e (rmD 5) s m args below meth c E 3 0 0 (QR below args s E 0 0 (some (.long v)) M') 19 [(0, .ref (eA E 67)), (1, .int x1), (2, .int x2)] [.int s1, .ref (eA E 67)] M := by
  unfold bb_X10_squares_67_19 at h
  refine G.iconst (v := (1 : Int32)) C dX10_squares_19 (by decide) ?_
  obtain ⟨v_6, M_5, hv_4, h⟩ := bd2_ex h
  refine G.callV (rest := []) C (s_X10_bad_67 hE  hv_4) ⟨tg_1600, tg_103, ok_X10_bad, Nat.le_of_ble_eq_true rfl, Nat.le_of_ble_eq_true rfl⟩ tg_1597 tg_1599 tg_46 (sm_67 hE) rfl rfl (Nat.le_of_ble_eq_true rfl) dX10_squares_20 ⟨Nat.le_refl 0, Nat.le_refl 0⟩ ?_
  refine G.if_ne (tgt := 48) C dX10_squares_23 (by decide) (fun hc => ?_) (fun hc => ?_)
  · have h := it_f h hc
    refine G.lconst (v := (0 : Int64)) C dX10_squares_48 (by decide) ?_
    cases h
    exact G.lret C hr dX10_squares_49
  · have h := it_t h hc
    refine G.aload_n C 0 dX10_squares_26 rfl rfl ?_
    refine G.iload_n C 2 dX10_squares_27 rfl rfl ?_
    refine G.iconst (v := (0 : Int32)) C dX10_squares_28 (by decide) ?_
    refine G.iconst (v := (2 : Int32)) C dX10_squares_29 (by decide) ?_
    obtain ⟨v_8, hv_7, h⟩ := bd_ex h
    refine G.callS (rest := [.ref (eA E 67)]) C (s_X10_in  hv_7) ⟨tg_1596, tg_103, ok_X10_in, Nat.le_of_ble_eq_true rfl, Nat.le_of_ble_eq_true rfl⟩ tg_1594 tg_1595 rfl (Nat.le_of_ble_eq_true rfl) dX10_squares_30 ⟨Nat.le_refl 0, Nat.le_refl 0⟩ ?_
    refine G.if_ne (tgt := 40) C dX10_squares_33 (by decide) (fun hc => ?_) (fun hc => ?_)
    · have h := it_f h hc
      refine G.iconst (v := (0 : Int32)) C dX10_squares_40 (by decide) ?_
      exact G.sub [0, 1, 2] rfl (gb_X10_squares_67_41 hE C hr  h)
    · have h := it_t h hc
      refine G.iconst (v := (1 : Int32)) C dX10_squares_36 (by decide) ?_
      refine G.goto (tgt := 41) C dX10_squares_37 (by decide) ?_
      exact G.sub [0, 1, 2] rfl (gb_X10_squares_67_41 hE C hr  h)
def bb_X10_squares_67_0 (x1 : Int32) (x2 : Int32) (M : Mm) : Option (Int64 × Mm) := ltv (wI M 67 0 (0 : Int32)) fun M_1 => bd (f_X10_isLetter_67 x1 M_1) fun v_3 => if v_3 = 0 then (bb_X10_squares_67_19 x1 x2 (1 : Int32) M_1) else (bb_X10_squares_67_19 x1 x2 (0 : Int32) M_1)
set_option maxHeartbeats 4000000 in
set_option maxRecDepth 100000 in
theorem gb_X10_squares_67_0  {x1 : Int32} {x2 : Int32} {M : Mm} {v : Int64} {M' : Mm} (hE : Has shM (eH E)) (C : Cx RX10 cX10_squares 3 p (rmD 5) s m args meth c E) (hr : meth.sig.returnType = (some .long)) (h : bb_X10_squares_67_0 x1 x2 M = some (v, M')) : G p l e (rmD 5) s m args below meth c E 3 0 0 (QR below args s E 0 0 (some (.long v)) M') 0 [(0, .ref (eA E 67)), (1, .int x1), (2, .int x2)] [] M := by
  unfold bb_X10_squares_67_0 at h
  refine G.aload_n C 0 dX10_squares_0 rfl rfl ?_
  refine G.iconst (v := (0 : Int32)) C dX10_squares_1 (by decide) ?_
  obtain ⟨M_1, eM_1, h⟩ := ltv_ex h
  refine G.putI (k := 0) C k_X10 (sm_67 hE) rfl (by decide) tg_1431 rfl rfl dX10_squares_2 eM_1 ?_
  refine G.aload_n C 0 dX10_squares_5 rfl rfl ?_
  refine G.aload_n C 0 dX10_squares_6 rfl rfl ?_
  refine G.iload_n C 1 dX10_squares_7 rfl rfl ?_
  obtain ⟨v_3, hv_2, h⟩ := bd_ex h
  refine G.callV (rest := [.ref (eA E 67)]) C (s_X10_isLetter_67 hE  hv_2) ⟨tg_1699, tg_103, ok_X10_isLetter, Nat.le_of_ble_eq_true rfl, Nat.le_of_ble_eq_true rfl⟩ tg_1696 tg_1698 tg_62 (sm_67 hE) rfl rfl (Nat.le_of_ble_eq_true rfl) dX10_squares_8 ⟨Nat.le_refl 0, Nat.le_refl 0⟩ ?_
  refine G.if_ne (tgt := 18) C dX10_squares_11 (by decide) (fun hc => ?_) (fun hc => ?_)
  · have h := it_f h hc
    refine G.iconst (v := (0 : Int32)) C dX10_squares_18 (by decide) ?_
    exact G.sub [0, 1, 2] rfl (gb_X10_squares_67_19 hE C hr  h)
  · have h := it_t h hc
    refine G.iconst (v := (1 : Int32)) C dX10_squares_14 (by decide) ?_
    refine G.goto (tgt := 19) C dX10_squares_15 (by decide) ?_
    exact G.sub [0, 1, 2] rfl (gb_X10_squares_67_19 hE C hr  h)
def f_X10_squares_67 (x1 : Int32) (x2 : Int32) (M : Mm) : Option (Int64 × Mm) := bb_X10_squares_67_0 x1 x2 M
theorem s_X10_squares_67 {l : Launch} {E : Ev} {x1 : Int32} {x2 : Int32} {M : Mm} {v : Int64} {M' : Mm} (hE : Has shM (eH E)) (h : f_X10_squares_67 x1 x2 M = some (v, M')) : MetA l yX10_squares cX10_squares 3 (some .long) 5 E [.ref (eA E 67), .int x1, .int x2] M (some (.long v)) M' := by
  refine MetA.of (by decide +kernel) (Nat.le_of_ble_eq_true rfl) ?_
  intro p e s m below meth c C hr hnm
  exact G.sub [0, 1, 2] rfl (gb_X10_squares_67_0 hE C hr  h)
def bb_X10_broad_67_50 (k_8 : Int32 → Int32 → Int32 → Int32 → Mm → Option Int32) (x1 : Int32) (x3 : Int32) (x4 : Int32) (s0 : Int32) (M : Mm) : Option Int32 := if (rmI x4 (8 : Int32)) ≤ x3 then (ltv (x4 + (1 : Int32)) fun x4_5 => k_8 x1 s0 x3 x4_5 M) else (ltv (rmI x4 (8 : Int32)) fun x3_6 => ltv (x4 + (1 : Int32)) fun x4_7 => k_8 x1 s0 x3_6 x4_7 M)
set_option maxHeartbeats 4000000 in
set_option maxRecDepth 100000 in
theorem gb_X10_broad_67_50  {k_8 : Int32 → Int32 → Int32 → Int32 → Mm → Option Int32} {x1 : Int32} {x3 : Int32} {x4 : Int32} {s0 : Int32} {M : Mm} {v : Int32} (hE : Has shM (eH E)) (C : Cx RX10 cX10_broad 5 p (rmD 2) s m args meth c E) (hr : meth.sig.returnType = (some .int)) (hk_8 : ∀ (x1 : Int32) (x2 : Int32) (x3 : Int32) (x4 : Int32) (M : Mm), k_8 x1 x2 x3 x4 M = some v → G p l e (rmD 2) s m args below meth c E 5 0 0 (QR below args s E 0 0 (some (.int v)) M) 8 [(0, .ref (eA E 67)), (1, .int x1), (2, .int x2), (3, .int x3), (4, .int x4)] [] M) (h : bb_X10_broad_67_50 k_8 x1 x3 x4 s0 M = some v) : G p l e (rmD 2) s m args below meth c E 5 0 0 (QR below args s E 0 0 (some (.int v)) M) 50 [(0, .ref (eA E 67)), (1, .int x1), (3, .int x3), (4, .int x4)] [.int s0] M := by
  unfold bb_X10_broad_67_50 at h
  refine G.istore_n (L' := [(2, .int s0), (0, .ref (eA E 67)), (1, .int x1), (3, .int x3), (4, .int x4)]) C dX10_broad_50 rfl rfl (by decide) rfl ?_
  refine G.iload C 4 dX10_broad_51 rfl ?_
  refine G.bipush (v := (8 : Int32)) C dX10_broad_53 (by decide) ?_
  refine G.irm C dX10_broad_55 (by decide) ?_
  refine G.iload_n C 3 dX10_broad_56 rfl rfl ?_
  refine G.icmp_le (tgt := 68) C dX10_broad_57 (by decide) (fun hc => ?_) (fun hc => ?_)
  · have h := it_t h hc
    refine G.iload_n C 3 dX10_broad_68 rfl rfl ?_
    refine G.istore_n (L' := [(3, .int x3), (2, .int s0), (0, .ref (eA E 67)), (1, .int x1), (4, .int x4)]) C dX10_broad_69 rfl rfl (by decide) rfl ?_
    obtain ⟨x4_5, ex4_5, h⟩ := ltv_ex h
    refine G.iinc (L' := [(4, .int x4_5), (3, .int x3), (2, .int s0), (0, .ref (eA E 67)), (1, .int x1)]) C 4 dX10_broad_70 rfl (ex4_5.trans rfl) (by decide) rfl ?_
    refine G.goto (tgt := 8) C dX10_broad_73 (by decide) ?_
    exact G.sub [3, 4, 2, 1, 0] rfl (hk_8 _ _ _ _ _  h)
  · have h := it_f h hc
    refine G.iload C 4 dX10_broad_60 rfl ?_
    refine G.bipush (v := (8 : Int32)) C dX10_broad_62 (by decide) ?_
    refine G.irm C dX10_broad_64 (by decide) ?_
    refine G.goto (tgt := 69) C dX10_broad_65 (by decide) ?_
    obtain ⟨x3_6, ex3_6, h⟩ := ltv_ex h
    refine G.istore_n (L' := [(3, .int x3_6), (2, .int s0), (0, .ref (eA E 67)), (1, .int x1), (4, .int x4)]) C dX10_broad_69 rfl ex3_6 (by decide) rfl ?_
    obtain ⟨x4_7, ex4_7, h⟩ := ltv_ex h
    refine G.iinc (L' := [(4, .int x4_7), (3, .int x3_6), (2, .int s0), (0, .ref (eA E 67)), (1, .int x1)]) C 4 dX10_broad_70 rfl (ex4_7.trans rfl) (by decide) rfl ?_
    refine G.goto (tgt := 8) C dX10_broad_73 (by decide) ?_
    exact G.sub [3, 4, 2, 1, 0] rfl (hk_8 _ _ _ _ _  h)
def bb_X10_broad_67_8 (k_8 : Int32 → Int32 → Int32 → Int32 → Mm → Option Int32) (x1 : Int32) (x2 : Int32) (x3 : Int32) (x4 : Int32) (M : Mm) : Option Int32 := if (64 : Int32) ≤ x4 then (if x3 = (-1 : Int32) then (some (0 : Int32)) else (some ((x3 - x2) + (1 : Int32)))) else (gd (inb x1 10) (bd (f_X10_is (M.2 72 (ix x1)) x4) fun v_3 => if v_3 = 0 then (ltv (x4 + (1 : Int32)) fun x4_4 => k_8 x1 x2 x3 x4_4 M) else (if x2 ≤ (rmI x4 (8 : Int32)) then (bb_X10_broad_67_50 k_8 x1 x3 x4 x2 M) else (bb_X10_broad_67_50 k_8 x1 x3 x4 (rmI x4 (8 : Int32)) M))))
set_option maxHeartbeats 4000000 in
set_option maxRecDepth 100000 in
theorem gb_X10_broad_67_8  {k_8 : Int32 → Int32 → Int32 → Int32 → Mm → Option Int32} {x1 : Int32} {x2 : Int32} {x3 : Int32} {x4 : Int32} {M : Mm} {v : Int32} (hE : Has shM (eH E)) (C : Cx RX10 cX10_broad 5 p (rmD 2) s m args meth c E) (hr : meth.sig.returnType = (some .int)) (hk_8 : ∀ (x1 : Int32) (x2 : Int32) (x3 : Int32) (x4 : Int32) (M : Mm), k_8 x1 x2 x3 x4 M = some v → G p l e (rmD 2) s m args below meth c E 5 0 0 (QR below args s E 0 0 (some (.int v)) M) 8 [(0, .ref (eA E 67)), (1, .int x1), (2, .int x2), (3, .int x3), (4, .int x4)] [] M) (h : bb_X10_broad_67_8 k_8 x1 x2 x3 x4 M = some v) : G p l e (rmD 2) s m args below meth c E 5 0 0 (QR below args s E 0 0 (some (.int v)) M) 8 [(0, .ref (eA E 67)), (1, .int x1), (2, .int x2), (3, .int x3), (4, .int x4)] [] M := by
  unfold bb_X10_broad_67_8 at h
  refine G.iload C 4 dX10_broad_8 rfl ?_
  refine G.bipush (v := (64 : Int32)) C dX10_broad_10 (by decide) ?_
  refine G.icmp_ge (tgt := 76) C dX10_broad_12 (by decide) (fun hc => ?_) (fun hc => ?_)
  · have h := it_t h hc
    refine G.iload_n C 3 dX10_broad_76 rfl rfl ?_
    refine G.iconst (v := (-1 : Int32)) C dX10_broad_77 (by decide) ?_
    refine G.icmp_ne (tgt := 85) C dX10_broad_78 (by decide) (fun hc => ?_) (fun hc => ?_)
    · have h := it_f h hc
      refine G.iload_n C 3 dX10_broad_85 rfl rfl ?_
      refine G.iload_n C 2 dX10_broad_86 rfl rfl ?_
      refine G.isub C dX10_broad_87 ?_
      refine G.iconst (v := (1 : Int32)) C dX10_broad_88 (by decide) ?_
      refine G.iadd C dX10_broad_89 ?_
      cases h
      exact G.iret C hr dX10_broad_90
    · have h := it_t h hc
      refine G.iconst (v := (0 : Int32)) C dX10_broad_81 (by decide) ?_
      refine G.goto (tgt := 90) C dX10_broad_82 (by decide) ?_
      cases h
      exact G.iret C hr dX10_broad_90
  · have h := it_f h hc
    refine G.aload_n C 0 dX10_broad_15 rfl rfl ?_
    refine G.getR (k := 12) C k_X10 (sm_67 hE) rfl (by decide) tg_1443 dX10_broad_16 ?_
    refine G.iload_n C 1 dX10_broad_19 rfl rfl ?_
    obtain ⟨hg_1, h⟩ := gd_ex h
    refine G.aJ (j := ix x1) C (sm_72 hE) hg_1 rfl dX10_broad_20 ?_
    refine G.iload C 4 dX10_broad_21 rfl ?_
    obtain ⟨v_3, hv_2, h⟩ := bd_ex h
    refine G.callS (rest := []) C (s_X10_is  hv_2) ⟨tg_1650, tg_103, ok_X10_is, Nat.le_of_ble_eq_true rfl, Nat.le_of_ble_eq_true rfl⟩ tg_1648 tg_1649 rfl (Nat.le_of_ble_eq_true rfl) dX10_broad_23 ⟨Nat.le_refl 0, Nat.le_refl 0⟩ ?_
    refine G.if_ne (tgt := 32) C dX10_broad_26 (by decide) (fun hc => ?_) (fun hc => ?_)
    · have h := it_f h hc
      refine G.iload C 4 dX10_broad_32 rfl ?_
      refine G.bipush (v := (8 : Int32)) C dX10_broad_34 (by decide) ?_
      refine G.irm C dX10_broad_36 (by decide) ?_
      refine G.iload_n C 2 dX10_broad_37 rfl rfl ?_
      refine G.icmp_ge (tgt := 49) C dX10_broad_38 (by decide) (fun hc => ?_) (fun hc => ?_)
      · have h := it_t h hc
        refine G.iload_n C 2 dX10_broad_49 rfl rfl ?_
        exact G.sub [0, 1, 3, 4] rfl (gb_X10_broad_67_50 hE C hr hk_8  h)
      · have h := it_f h hc
        refine G.iload C 4 dX10_broad_41 rfl ?_
        refine G.bipush (v := (8 : Int32)) C dX10_broad_43 (by decide) ?_
        refine G.irm C dX10_broad_45 (by decide) ?_
        refine G.goto (tgt := 50) C dX10_broad_46 (by decide) ?_
        exact G.sub [0, 1, 3, 4] rfl (gb_X10_broad_67_50 hE C hr hk_8  h)
    · have h := it_t h hc
      refine G.goto (tgt := 70) C dX10_broad_29 (by decide) ?_
      obtain ⟨x4_4, ex4_4, h⟩ := ltv_ex h
      refine G.iinc (L' := [(4, .int x4_4), (0, .ref (eA E 67)), (1, .int x1), (2, .int x2), (3, .int x3)]) C 4 dX10_broad_70 rfl (ex4_4.trans rfl) (by decide) rfl ?_
      refine G.goto (tgt := 8) C dX10_broad_73 (by decide) ?_
      exact G.sub [1, 2, 3, 4, 0] rfl (hk_8 _ _ _ _ _  h)
def b_X10_broad_67_8 : Nat → Int32 → Int32 → Int32 → Int32 → Mm → Option Int32
  | 0, _, _, _, _, _ => none
  | n + 1, x1, x2, x3, x4, M => bb_X10_broad_67_8 (b_X10_broad_67_8 n) x1 x2 x3 x4 M
set_option maxHeartbeats 4000000 in
theorem g_X10_broad_67_8  {n : Nat} {x1 : Int32} {x2 : Int32} {x3 : Int32} {x4 : Int32} {M : Mm} {v : Int32} (hE : Has shM (eH E)) (C : Cx RX10 cX10_broad 5 p (rmD 2) s m args meth c E) (hr : meth.sig.returnType = (some .int)) (h : b_X10_broad_67_8 n x1 x2 x3 x4 M = some v) : G p l e (rmD 2) s m args below meth c E 5 0 0 (QR below args s E 0 0 (some (.int v)) M) 8 [(0, .ref (eA E 67)), (1, .int x1), (2, .int x2), (3, .int x3), (4, .int x4)] [] M := by
  induction n generalizing x1 x2 x3 x4 M with
  | zero => cases h
  | succ n ih => exact gb_X10_broad_67_8 hE C hr (fun _ _ _ _ _ => ih)  h
def bb_X10_broad_67_0 (x1 : Int32) (M : Mm) : Option Int32 := b_X10_broad_67_8 FU x1 (8 : Int32) (-1 : Int32) (0 : Int32) M
set_option maxHeartbeats 4000000 in
set_option maxRecDepth 100000 in
theorem gb_X10_broad_67_0  {x1 : Int32} {M : Mm} {v : Int32} (hE : Has shM (eH E)) (C : Cx RX10 cX10_broad 5 p (rmD 2) s m args meth c E) (hr : meth.sig.returnType = (some .int)) (h : bb_X10_broad_67_0 x1 M = some v) : G p l e (rmD 2) s m args below meth c E 5 0 0 (QR below args s E 0 0 (some (.int v)) M) 0 [(0, .ref (eA E 67)), (1, .int x1)] [] M := by
  unfold bb_X10_broad_67_0 at h
  refine G.bipush (v := (8 : Int32)) C dX10_broad_0 (by decide) ?_
  refine G.istore_n (L' := [(2, .int (8 : Int32)), (0, .ref (eA E 67)), (1, .int x1)]) C dX10_broad_2 rfl rfl (by decide) rfl ?_
  refine G.iconst (v := (-1 : Int32)) C dX10_broad_3 (by decide) ?_
  refine G.istore_n (L' := [(3, .int (-1 : Int32)), (2, .int (8 : Int32)), (0, .ref (eA E 67)), (1, .int x1)]) C dX10_broad_4 rfl rfl (by decide) rfl ?_
  refine G.iconst (v := (0 : Int32)) C dX10_broad_5 (by decide) ?_
  refine G.istore (L' := [(4, .int (0 : Int32)), (3, .int (-1 : Int32)), (2, .int (8 : Int32)), (0, .ref (eA E 67)), (1, .int x1)]) C dX10_broad_6 rfl (by decide) rfl ?_
  exact G.sub [3, 4, 2, 1, 0] rfl (g_X10_broad_67_8 hE C hr  h)
def f_X10_broad_67 (x1 : Int32) (M : Mm) : Option Int32 := bb_X10_broad_67_0 x1 M
theorem s_X10_broad_67 {l : Launch} {E : Ev} {x1 : Int32} {M : Mm} {v : Int32} (hE : Has shM (eH E)) (h : f_X10_broad_67 x1 M = some v) : MetA l yX10_broad cX10_broad 5 (some .int) 2 E [.ref (eA E 67), .int x1] M (some (.int v)) M := by
  refine MetA.of (by decide +kernel) (Nat.le_of_ble_eq_true rfl) ?_
  intro p e s m below meth c C hr hnm
  exact G.sub [0, 1] rfl (gb_X10_broad_67_0 hE C hr  h)
def bb_X10_ones_4 (k_4 : Int64 → Int32 → Int32 → Option Int32) (x0 : Int64) (x2 : Int32) (x3 : Int32) : Option Int32 := if (64 : Int32) ≤ x3 then (some x2) else (bd (f_X10_is x0 x3) fun v_2 => if v_2 = 0 then (ltv (x2 + (0 : Int32)) fun x2_3 => ltv (x3 + (1 : Int32)) fun x3_4 => k_4 x0 x2_3 x3_4) else (ltv (x2 + (1 : Int32)) fun x2_5 => ltv (x3 + (1 : Int32)) fun x3_6 => k_4 x0 x2_5 x3_6))
set_option maxHeartbeats 4000000 in
set_option maxRecDepth 100000 in
theorem gb_X10_ones_4 {M : Mm}  {k_4 : Int64 → Int32 → Int32 → Option Int32} {x0 : Int64} {x2 : Int32} {x3 : Int32} {v : Int32} (C : Cx RX10 cX10_ones 4 p (rmD 2) s m args meth c E) (hr : meth.sig.returnType = (some .int)) (hk_4 : ∀ (x0 : Int64) (x2 : Int32) (x3 : Int32), k_4 x0 x2 x3 = some v → G p l e (rmD 2) s m args below meth c E 4 0 0 (QR below args s E 0 0 (some (.int v)) M) 4 [(0, .long x0), (2, .int x2), (3, .int x3)] [] M) (h : bb_X10_ones_4 k_4 x0 x2 x3 = some v) : G p l e (rmD 2) s m args below meth c E 4 0 0 (QR below args s E 0 0 (some (.int v)) M) 4 [(0, .long x0), (2, .int x2), (3, .int x3)] [] M := by
  unfold bb_X10_ones_4 at h
  refine G.iload_n C 2 dX10_ones_4 rfl rfl ?_
  refine G.bipush (v := (64 : Int32)) C dX10_ones_5 (by decide) ?_
  refine G.icmp_ge (tgt := 32) C dX10_ones_7 (by decide) (fun hc => ?_) (fun hc => ?_)
  · have h := it_t h hc
    refine G.iload_n C 1 dX10_ones_32 rfl rfl ?_
    cases h
    exact G.iret C hr dX10_ones_33
  · have h := it_f h hc
    refine G.iload_n C 1 dX10_ones_10 rfl rfl ?_
    refine G.lload_n C 0 dX10_ones_11 rfl rfl ?_
    refine G.iload_n C 2 dX10_ones_12 rfl rfl ?_
    obtain ⟨v_2, hv_1, h⟩ := bd_ex h
    refine G.callS (rest := [.int x2]) C (s_X10_is  hv_1) ⟨tg_1650, tg_103, ok_X10_is, Nat.le_of_ble_eq_true rfl, Nat.le_of_ble_eq_true rfl⟩ tg_1648 tg_1649 rfl (Nat.le_of_ble_eq_true rfl) dX10_ones_13 ⟨Nat.le_refl 0, Nat.le_refl 0⟩ ?_
    refine G.if_eq (tgt := 23) C dX10_ones_16 (by decide) (fun hc => ?_) (fun hc => ?_)
    · have h := it_t h hc
      refine G.iconst (v := (0 : Int32)) C dX10_ones_23 (by decide) ?_
      refine G.iadd C dX10_ones_24 ?_
      obtain ⟨x2_3, ex2_3, h⟩ := ltv_ex h
      refine G.istore_n (L' := [(2, .int x2_3), (0, .long x0), (3, .int x3)]) C dX10_ones_25 rfl ex2_3 (by decide) rfl ?_
      obtain ⟨x3_4, ex3_4, h⟩ := ltv_ex h
      refine G.iinc (L' := [(3, .int x3_4), (2, .int x2_3), (0, .long x0)]) C 2 dX10_ones_26 rfl (ex3_4.trans rfl) (by decide) rfl ?_
      refine G.goto (tgt := 4) C dX10_ones_29 (by decide) ?_
      exact G.sub [2, 1, 0] rfl (hk_4 _ _ _  h)
    · have h := it_f h hc
      refine G.iconst (v := (1 : Int32)) C dX10_ones_19 (by decide) ?_
      refine G.goto (tgt := 24) C dX10_ones_20 (by decide) ?_
      refine G.iadd C dX10_ones_24 ?_
      obtain ⟨x2_5, ex2_5, h⟩ := ltv_ex h
      refine G.istore_n (L' := [(2, .int x2_5), (0, .long x0), (3, .int x3)]) C dX10_ones_25 rfl ex2_5 (by decide) rfl ?_
      obtain ⟨x3_6, ex3_6, h⟩ := ltv_ex h
      refine G.iinc (L' := [(3, .int x3_6), (2, .int x2_5), (0, .long x0)]) C 2 dX10_ones_26 rfl (ex3_6.trans rfl) (by decide) rfl ?_
      refine G.goto (tgt := 4) C dX10_ones_29 (by decide) ?_
      exact G.sub [2, 1, 0] rfl (hk_4 _ _ _  h)
def b_X10_ones_4 : Nat → Int64 → Int32 → Int32 → Option Int32
  | 0, _, _, _ => none
  | n + 1, x0, x2, x3 => bb_X10_ones_4 (b_X10_ones_4 n) x0 x2 x3
set_option maxHeartbeats 4000000 in
theorem g_X10_ones_4 {M : Mm}  {n : Nat} {x0 : Int64} {x2 : Int32} {x3 : Int32} {v : Int32} (C : Cx RX10 cX10_ones 4 p (rmD 2) s m args meth c E) (hr : meth.sig.returnType = (some .int)) (h : b_X10_ones_4 n x0 x2 x3 = some v) : G p l e (rmD 2) s m args below meth c E 4 0 0 (QR below args s E 0 0 (some (.int v)) M) 4 [(0, .long x0), (2, .int x2), (3, .int x3)] [] M := by
  induction n generalizing x0 x2 x3 with
  | zero => cases h
  | succ n ih => exact gb_X10_ones_4 C hr (fun _ _ _ => ih)  h
def bb_X10_ones_0 (x0 : Int64) : Option Int32 := b_X10_ones_4 FU x0 (0 : Int32) (0 : Int32)
set_option maxHeartbeats 4000000 in
set_option maxRecDepth 100000 in
theorem gb_X10_ones_0 {M : Mm}  {x0 : Int64} {v : Int32} (C : Cx RX10 cX10_ones 4 p (rmD 2) s m args meth c E) (hr : meth.sig.returnType = (some .int)) (h : bb_X10_ones_0 x0 = some v) : G p l e (rmD 2) s m args below meth c E 4 0 0 (QR below args s E 0 0 (some (.int v)) M) 0 [(0, .long x0)] [] M := by
  unfold bb_X10_ones_0 at h
  refine G.iconst (v := (0 : Int32)) C dX10_ones_0 (by decide) ?_
  refine G.istore_n (L' := [(2, .int (0 : Int32)), (0, .long x0)]) C dX10_ones_1 rfl rfl (by decide) rfl ?_
  refine G.iconst (v := (0 : Int32)) C dX10_ones_2 (by decide) ?_
  refine G.istore_n (L' := [(3, .int (0 : Int32)), (2, .int (0 : Int32)), (0, .long x0)]) C dX10_ones_3 rfl rfl (by decide) rfl ?_
  exact G.sub [2, 1, 0] rfl (g_X10_ones_4 C hr  h)
def f_X10_ones (x0 : Int64) : Option Int32 := bb_X10_ones_0 x0
theorem s_X10_ones {l : Launch} {E : Ev} {x0 : Int64} {M : Mm} {v : Int32} (h : f_X10_ones x0 = some v) : MetA l yX10_ones cX10_ones 4 (some .int) 2 E [.long x0] M (some (.int v)) M := by
  refine MetA.of (by decide +kernel) (Nat.le_of_ble_eq_true rfl) ?_
  intro p e s m below meth c C hr hnm
  exact G.sub [0] rfl (gb_X10_ones_0 C hr  h)
def bb_X10_edge_67_0 (x1 : Int32) (M : Mm) : Option Int32 := gd (inb x1 10) (bd (f_X10_beside (M.2 72 (ix x1))) fun v_3 => gd (inb x1 10) (bd (f_X10_ones (v_3 &&& ((M.2 72 (ix x1)) ^^^ (-1 : Int64)))) fun v_6 => some v_6))
set_option maxHeartbeats 4000000 in
set_option maxRecDepth 100000 in
theorem gb_X10_edge_67_0  {x1 : Int32} {M : Mm} {v : Int32} (hE : Has shM (eH E)) (C : Cx RX10 cX10_edge 2 p (rmD 3) s m args meth c E) (hr : meth.sig.returnType = (some .int)) (h : bb_X10_edge_67_0 x1 M = some v) : G p l e (rmD 3) s m args below meth c E 2 0 0 (QR below args s E 0 0 (some (.int v)) M) 0 [(0, .ref (eA E 67)), (1, .int x1)] [] M := by
  unfold bb_X10_edge_67_0 at h
  refine G.aload_n C 0 dX10_edge_0 rfl rfl ?_
  refine G.getR (k := 12) C k_X10 (sm_67 hE) rfl (by decide) tg_1443 dX10_edge_1 ?_
  refine G.iload_n C 1 dX10_edge_4 rfl rfl ?_
  obtain ⟨hg_1, h⟩ := gd_ex h
  refine G.aJ (j := ix x1) C (sm_72 hE) hg_1 rfl dX10_edge_5 ?_
  obtain ⟨v_3, hv_2, h⟩ := bd_ex h
  refine G.callS (rest := []) C (s_X10_beside  hv_2) ⟨tg_1683, tg_103, ok_X10_beside, Nat.le_of_ble_eq_true rfl, Nat.le_of_ble_eq_true rfl⟩ tg_1681 tg_1682 rfl (Nat.le_of_ble_eq_true rfl) dX10_edge_6 ⟨Nat.le_refl 0, Nat.le_refl 0⟩ ?_
  refine G.aload_n C 0 dX10_edge_9 rfl rfl ?_
  refine G.getR (k := 12) C k_X10 (sm_67 hE) rfl (by decide) tg_1443 dX10_edge_10 ?_
  refine G.iload_n C 1 dX10_edge_13 rfl rfl ?_
  obtain ⟨hg_4, h⟩ := gd_ex h
  refine G.aJ (j := ix x1) C (sm_72 hE) hg_4 rfl dX10_edge_14 ?_
  refine G.ldc2 C tg_1655 dX10_edge_15 ?_
  refine G.lxor C dX10_edge_18 ?_
  refine G.land C dX10_edge_19 ?_
  obtain ⟨v_6, hv_5, h⟩ := bd_ex h
  refine G.callS (rest := []) C (s_X10_ones  hv_5) ⟨tg_1706, tg_103, ok_X10_ones, Nat.le_of_ble_eq_true rfl, Nat.le_of_ble_eq_true rfl⟩ tg_1704 tg_1705 rfl (Nat.le_of_ble_eq_true rfl) dX10_edge_20 ⟨Nat.le_refl 0, Nat.le_refl 0⟩ ?_
  cases h
  exact G.iret C hr dX10_edge_23
def f_X10_edge_67 (x1 : Int32) (M : Mm) : Option Int32 := bb_X10_edge_67_0 x1 M
theorem s_X10_edge_67 {l : Launch} {E : Ev} {x1 : Int32} {M : Mm} {v : Int32} (hE : Has shM (eH E)) (h : f_X10_edge_67 x1 M = some v) : MetA l yX10_edge cX10_edge 2 (some .int) 3 E [.ref (eA E 67), .int x1] M (some (.int v)) M := by
  refine MetA.of (by decide +kernel) (Nat.le_of_ble_eq_true rfl) ?_
  intro p e s m below meth c C hr hnm
  exact G.sub [0, 1] rfl (gb_X10_edge_67_0 hE C hr  h)
def bb_X10_letter_67_63 (k_63 : Int32 → Int32 → Int32 → Int32 → Int32 → Mm → Option (Int32 × Mm)) (x1 : Int32) (x2 : Int32) (x3 : Int32) (x4 : Int32) (x5 : Int32) (M : Mm) : Option (Int32 × Mm) := if x5 < 0 then (if x2 = 0 then (gd (inb x1 10) (bd (f_X10_ones (M.2 72 (ix x1))) fun v_19 => some (v_19, M))) else (if x2 = (1 : Int32) then (bd (f_X10_edge_67 x1 M) fun v_16 => some (v_16, M)) else (if x2 = (2 : Int32) then (bd (f_X10_broad_67 x1 M) fun v_14 => some (v_14, M)) else (if x2 = (3 : Int32) then (some (x3, M)) else (some (x4, M)))))) else (gd (inb x5 16) (if (M.1 92 (ix x5)) = x1 then (ltv (x4 + (1 : Int32)) fun x4_21 => ltv (x5 + (-1 : Int32)) fun x5_22 => k_63 x1 x2 x5 x4_21 x5_22 M) else (ltv (x5 + (-1 : Int32)) fun x5_23 => k_63 x1 x2 x3 x4 x5_23 M)))
set_option maxHeartbeats 4000000 in
set_option maxRecDepth 100000 in
theorem gb_X10_letter_67_63  {k_63 : Int32 → Int32 → Int32 → Int32 → Int32 → Mm → Option (Int32 × Mm)} {x1 : Int32} {x2 : Int32} {x3 : Int32} {x4 : Int32} {x5 : Int32} {M : Mm} {v : Int32} {M' : Mm} (hE : Has shM (eH E)) (C : Cx RX10 cX10_letter 6 p (rmD 4) s m args meth c E) (hr : meth.sig.returnType = (some .int)) (hk_63 : ∀ (x1 : Int32) (x2 : Int32) (x3 : Int32) (x4 : Int32) (x5 : Int32) (M : Mm), k_63 x1 x2 x3 x4 x5 M = some (v, M') → G p l e (rmD 4) s m args below meth c E 6 0 0 (QR below args s E 0 0 (some (.int v)) M') 63 [(0, .ref (eA E 67)), (1, .int x1), (2, .int x2), (3, .int x3), (4, .int x4), (5, .int x5)] [] M) (h : bb_X10_letter_67_63 k_63 x1 x2 x3 x4 x5 M = some (v, M')) : G p l e (rmD 4) s m args below meth c E 6 0 0 (QR below args s E 0 0 (some (.int v)) M') 63 [(0, .ref (eA E 67)), (1, .int x1), (2, .int x2), (3, .int x3), (4, .int x4), (5, .int x5)] [] M := by
  unfold bb_X10_letter_67_63 at h
  refine G.iload C 5 dX10_letter_63 rfl ?_
  refine G.if_lt (tgt := 94) C dX10_letter_65 (by decide) (fun hc => ?_) (fun hc => ?_)
  · have h := it_t h hc
    refine G.iload_n C 2 dX10_letter_94 rfl rfl ?_
    refine G.if_ne (tgt := 110) C dX10_letter_95 (by decide) (fun hc => ?_) (fun hc => ?_)
    · have h := it_f h hc
      refine G.iload_n C 2 dX10_letter_110 rfl rfl ?_
      refine G.iconst (v := (1 : Int32)) C dX10_letter_111 (by decide) ?_
      refine G.icmp_ne (tgt := 123) C dX10_letter_112 (by decide) (fun hc => ?_) (fun hc => ?_)
      · have h := it_f h hc
        refine G.iload_n C 2 dX10_letter_123 rfl rfl ?_
        refine G.iconst (v := (2 : Int32)) C dX10_letter_124 (by decide) ?_
        refine G.icmp_ne (tgt := 136) C dX10_letter_125 (by decide) (fun hc => ?_) (fun hc => ?_)
        · have h := it_f h hc
          refine G.iload_n C 2 dX10_letter_136 rfl rfl ?_
          refine G.iconst (v := (3 : Int32)) C dX10_letter_137 (by decide) ?_
          refine G.icmp_ne (tgt := 145) C dX10_letter_138 (by decide) (fun hc => ?_) (fun hc => ?_)
          · have h := it_f h hc
            refine G.iload C 4 dX10_letter_145 rfl ?_
            cases h
            exact G.iret C hr dX10_letter_147
          · have h := it_t h hc
            refine G.iload_n C 3 dX10_letter_141 rfl rfl ?_
            refine G.goto (tgt := 147) C dX10_letter_142 (by decide) ?_
            cases h
            exact G.iret C hr dX10_letter_147
        · have h := it_t h hc
          refine G.aload_n C 0 dX10_letter_128 rfl rfl ?_
          refine G.iload_n C 1 dX10_letter_129 rfl rfl ?_
          obtain ⟨v_14, hv_13, h⟩ := bd_ex h
          refine G.callV (rest := []) C (s_X10_broad_67 hE  hv_13) ⟨tg_1714, tg_103, ok_X10_broad, Nat.le_of_ble_eq_true rfl, Nat.le_of_ble_eq_true rfl⟩ tg_1711 tg_1713 tg_64 (sm_67 hE) rfl rfl (Nat.le_of_ble_eq_true rfl) dX10_letter_130 ⟨Nat.le_refl 0, Nat.le_refl 0⟩ ?_
          refine G.goto (tgt := 147) C dX10_letter_133 (by decide) ?_
          cases h
          exact G.iret C hr dX10_letter_147
      · have h := it_t h hc
        refine G.aload_n C 0 dX10_letter_115 rfl rfl ?_
        refine G.iload_n C 1 dX10_letter_116 rfl rfl ?_
        obtain ⟨v_16, hv_15, h⟩ := bd_ex h
        refine G.callV (rest := []) C (s_X10_edge_67 hE  hv_15) ⟨tg_1710, tg_103, ok_X10_edge, Nat.le_of_ble_eq_true rfl, Nat.le_of_ble_eq_true rfl⟩ tg_1707 tg_1709 tg_63 (sm_67 hE) rfl rfl (Nat.le_of_ble_eq_true rfl) dX10_letter_117 ⟨Nat.le_refl 0, Nat.le_refl 0⟩ ?_
        refine G.goto (tgt := 147) C dX10_letter_120 (by decide) ?_
        cases h
        exact G.iret C hr dX10_letter_147
    · have h := it_t h hc
      refine G.aload_n C 0 dX10_letter_98 rfl rfl ?_
      refine G.getR (k := 12) C k_X10 (sm_67 hE) rfl (by decide) tg_1443 dX10_letter_99 ?_
      refine G.iload_n C 1 dX10_letter_102 rfl rfl ?_
      obtain ⟨hg_17, h⟩ := gd_ex h
      refine G.aJ (j := ix x1) C (sm_72 hE) hg_17 rfl dX10_letter_103 ?_
      obtain ⟨v_19, hv_18, h⟩ := bd_ex h
      refine G.callS (rest := []) C (s_X10_ones  hv_18) ⟨tg_1706, tg_103, ok_X10_ones, Nat.le_of_ble_eq_true rfl, Nat.le_of_ble_eq_true rfl⟩ tg_1704 tg_1705 rfl (Nat.le_of_ble_eq_true rfl) dX10_letter_104 ⟨Nat.le_refl 0, Nat.le_refl 0⟩ ?_
      refine G.goto (tgt := 147) C dX10_letter_107 (by decide) ?_
      cases h
      exact G.iret C hr dX10_letter_147
  · have h := it_f h hc
    refine G.aload_n C 0 dX10_letter_68 rfl rfl ?_
    refine G.getR (k := 21) C k_X10 (sm_67 hE) rfl (by decide) tg_1452 dX10_letter_69 ?_
    refine G.iload C 5 dX10_letter_72 rfl ?_
    obtain ⟨hg_20, h⟩ := gd_ex h
    refine G.aI (j := ix x5) C (sm_92 hE) hg_20 rfl dX10_letter_74 ?_
    refine G.iload_n C 1 dX10_letter_75 rfl rfl ?_
    refine G.icmp_eq (tgt := 82) C dX10_letter_76 (by decide) (fun hc => ?_) (fun hc => ?_)
    · have h := it_t h hc
      refine G.iload C 5 dX10_letter_82 rfl ?_
      refine G.istore_n (L' := [(3, .int x5), (0, .ref (eA E 67)), (1, .int x1), (2, .int x2), (4, .int x4), (5, .int x5)]) C dX10_letter_84 rfl rfl (by decide) rfl ?_
      obtain ⟨x4_21, ex4_21, h⟩ := ltv_ex h
      refine G.iinc (L' := [(4, .int x4_21), (3, .int x5), (0, .ref (eA E 67)), (1, .int x1), (2, .int x2), (5, .int x5)]) C 4 dX10_letter_85 rfl (ex4_21.trans rfl) (by decide) rfl ?_
      obtain ⟨x5_22, ex5_22, h⟩ := ltv_ex h
      refine G.iinc (L' := [(5, .int x5_22), (4, .int x4_21), (3, .int x5), (0, .ref (eA E 67)), (1, .int x1), (2, .int x2)]) C 5 dX10_letter_88 rfl (ex5_22.trans rfl) (by decide) rfl ?_
      refine G.goto (tgt := 63) C dX10_letter_91 (by decide) ?_
      exact G.sub [3, 4, 5, 2, 1, 0] rfl (hk_63 _ _ _ _ _ _  h)
    · have h := it_f h hc
      refine G.goto (tgt := 88) C dX10_letter_79 (by decide) ?_
      obtain ⟨x5_23, ex5_23, h⟩ := ltv_ex h
      refine G.iinc (L' := [(5, .int x5_23), (0, .ref (eA E 67)), (1, .int x1), (2, .int x2), (3, .int x3), (4, .int x4)]) C 5 dX10_letter_88 rfl (ex5_23.trans rfl) (by decide) rfl ?_
      refine G.goto (tgt := 63) C dX10_letter_91 (by decide) ?_
      exact G.sub [1, 2, 3, 4, 5, 0] rfl (hk_63 _ _ _ _ _ _  h)
def b_X10_letter_67_63 : Nat → Int32 → Int32 → Int32 → Int32 → Int32 → Mm → Option (Int32 × Mm)
  | 0, _, _, _, _, _, _ => none
  | n + 1, x1, x2, x3, x4, x5, M => bb_X10_letter_67_63 (b_X10_letter_67_63 n) x1 x2 x3 x4 x5 M
set_option maxHeartbeats 4000000 in
theorem g_X10_letter_67_63  {n : Nat} {x1 : Int32} {x2 : Int32} {x3 : Int32} {x4 : Int32} {x5 : Int32} {M : Mm} {v : Int32} {M' : Mm} (hE : Has shM (eH E)) (C : Cx RX10 cX10_letter 6 p (rmD 4) s m args meth c E) (hr : meth.sig.returnType = (some .int)) (h : b_X10_letter_67_63 n x1 x2 x3 x4 x5 M = some (v, M')) : G p l e (rmD 4) s m args below meth c E 6 0 0 (QR below args s E 0 0 (some (.int v)) M') 63 [(0, .ref (eA E 67)), (1, .int x1), (2, .int x2), (3, .int x3), (4, .int x4), (5, .int x5)] [] M := by
  induction n generalizing x1 x2 x3 x4 x5 M with
  | zero => cases h
  | succ n ih => exact gb_X10_letter_67_63 hE C hr (fun _ _ _ _ _ _ => ih)  h
def bb_X10_letter_67_41 (x1 : Int32) (x2 : Int32) (s1 : Int32) (M : Mm) : Option (Int32 × Mm) := bd2 (f_X10_bad_67 s1 (2 : Int32) M) fun v_11 M_10 => if v_11 = 0 then (ltv ((M_10.1 67 19) - (1 : Int32)) fun x5_12 => b_X10_letter_67_63 FU x1 x2 (-1 : Int32) (0 : Int32) x5_12 M_10) else (some ((0 : Int32), M_10))
set_option maxHeartbeats 4000000 in
set_option maxRecDepth 100000 in
theorem gb_X10_letter_67_41  {x1 : Int32} {x2 : Int32} {s1 : Int32} {M : Mm} {v : Int32} {M' : Mm} (hE : Has shM (eH E)) (C : Cx RX10 cX10_letter 6 p (rmD 4) s m args meth c E) (hr : meth.sig.returnType = (some .int)) (h : bb_X10_letter_67_41 x1 x2 s1 M = some (v, M')) : G p l e (rmD 4) s m args below meth c E 6 0 0 (QR below args s E 0 0 (some (.int v)) M') 41 [(0, .ref (eA E 67)), (1, .int x1), (2, .int x2)] [.int s1, .ref (eA E 67)] M := by
  unfold bb_X10_letter_67_41 at h
  refine G.iconst (v := (2 : Int32)) C dX10_letter_41 (by decide) ?_
  obtain ⟨v_11, M_10, hv_9, h⟩ := bd2_ex h
  refine G.callV (rest := []) C (s_X10_bad_67 hE  hv_9) ⟨tg_1600, tg_103, ok_X10_bad, Nat.le_of_ble_eq_true rfl, Nat.le_of_ble_eq_true rfl⟩ tg_1597 tg_1599 tg_46 (sm_67 hE) rfl rfl (Nat.le_of_ble_eq_true rfl) dX10_letter_42 ⟨Nat.le_refl 0, Nat.le_refl 0⟩ ?_
  refine G.if_eq (tgt := 50) C dX10_letter_45 (by decide) (fun hc => ?_) (fun hc => ?_)
  · have h := it_t h hc
    refine G.iconst (v := (-1 : Int32)) C dX10_letter_50 (by decide) ?_
    refine G.istore_n (L' := [(3, .int (-1 : Int32)), (0, .ref (eA E 67)), (1, .int x1), (2, .int x2)]) C dX10_letter_51 rfl rfl (by decide) rfl ?_
    refine G.iconst (v := (0 : Int32)) C dX10_letter_52 (by decide) ?_
    refine G.istore (L' := [(4, .int (0 : Int32)), (3, .int (-1 : Int32)), (0, .ref (eA E 67)), (1, .int x1), (2, .int x2)]) C dX10_letter_53 rfl (by decide) rfl ?_
    refine G.aload_n C 2 dX10_letter_55 rfl rfl ?_
    refine G.getI (k := 19) C k_X10 (sm_67 hE) rfl (by decide) tg_1450 dX10_letter_56 ?_
    refine G.iconst (v := (1 : Int32)) C dX10_letter_59 (by decide) ?_
    refine G.isub C dX10_letter_60 ?_
    obtain ⟨x5_12, ex5_12, h⟩ := ltv_ex h
    refine G.istore (L' := [(5, .int x5_12), (4, .int (0 : Int32)), (3, .int (-1 : Int32)), (0, .ref (eA E 67)), (1, .int x1), (2, .int x2)]) C dX10_letter_61 ex5_12 (by decide) rfl ?_
    exact G.sub [3, 4, 5, 2, 1, 0] rfl (g_X10_letter_67_63 hE C hr  h)
  · have h := it_f h hc
    refine G.iconst (v := (0 : Int32)) C dX10_letter_48 (by decide) ?_
    cases h
    exact G.iret C hr dX10_letter_49
def bb_X10_letter_67_19 (x1 : Int32) (x2 : Int32) (s1 : Int32) (M : Mm) : Option (Int32 × Mm) := bd2 (f_X10_bad_67 s1 (1 : Int32) M) fun v_6 M_5 => if v_6 = 0 then (bd (f_X10_in x2 (0 : Int32) (4 : Int32)) fun v_8 => if v_8 = 0 then (bb_X10_letter_67_41 x1 x2 (1 : Int32) M_5) else (bb_X10_letter_67_41 x1 x2 (0 : Int32) M_5)) else (some ((0 : Int32), M_5))
set_option maxHeartbeats 4000000 in
set_option maxRecDepth 100000 in
theorem gb_X10_letter_67_19  {x1 : Int32} {x2 : Int32} {s1 : Int32} {M : Mm} {v : Int32} {M' : Mm} (hE : Has shM (eH E)) (C : Cx RX10 cX10_letter 6 p (rmD 4) s m args meth c E) (hr : meth.sig.returnType = (some .int)) (h : bb_X10_letter_67_19 x1 x2 s1 M = some (v, M')) : G p l e (rmD 4) s m args below meth c E 6 0 0 (QR below args s E 0 0 (some (.int v)) M') 19 [(0, .ref (eA E 67)), (1, .int x1), (2, .int x2)] [.int s1, .ref (eA E 67)] M := by
  unfold bb_X10_letter_67_19 at h
  refine G.iconst (v := (1 : Int32)) C dX10_letter_19 (by decide) ?_
  obtain ⟨v_6, M_5, hv_4, h⟩ := bd2_ex h
  refine G.callV (rest := []) C (s_X10_bad_67 hE  hv_4) ⟨tg_1600, tg_103, ok_X10_bad, Nat.le_of_ble_eq_true rfl, Nat.le_of_ble_eq_true rfl⟩ tg_1597 tg_1599 tg_46 (sm_67 hE) rfl rfl (Nat.le_of_ble_eq_true rfl) dX10_letter_20 ⟨Nat.le_refl 0, Nat.le_refl 0⟩ ?_
  refine G.if_ne (tgt := 48) C dX10_letter_23 (by decide) (fun hc => ?_) (fun hc => ?_)
  · have h := it_f h hc
    refine G.iconst (v := (0 : Int32)) C dX10_letter_48 (by decide) ?_
    cases h
    exact G.iret C hr dX10_letter_49
  · have h := it_t h hc
    refine G.aload_n C 0 dX10_letter_26 rfl rfl ?_
    refine G.iload_n C 2 dX10_letter_27 rfl rfl ?_
    refine G.iconst (v := (0 : Int32)) C dX10_letter_28 (by decide) ?_
    refine G.iconst (v := (4 : Int32)) C dX10_letter_29 (by decide) ?_
    obtain ⟨v_8, hv_7, h⟩ := bd_ex h
    refine G.callS (rest := [.ref (eA E 67)]) C (s_X10_in  hv_7) ⟨tg_1596, tg_103, ok_X10_in, Nat.le_of_ble_eq_true rfl, Nat.le_of_ble_eq_true rfl⟩ tg_1594 tg_1595 rfl (Nat.le_of_ble_eq_true rfl) dX10_letter_30 ⟨Nat.le_refl 0, Nat.le_refl 0⟩ ?_
    refine G.if_ne (tgt := 40) C dX10_letter_33 (by decide) (fun hc => ?_) (fun hc => ?_)
    · have h := it_f h hc
      refine G.iconst (v := (0 : Int32)) C dX10_letter_40 (by decide) ?_
      exact G.sub [0, 1, 2] rfl (gb_X10_letter_67_41 hE C hr  h)
    · have h := it_t h hc
      refine G.iconst (v := (1 : Int32)) C dX10_letter_36 (by decide) ?_
      refine G.goto (tgt := 41) C dX10_letter_37 (by decide) ?_
      exact G.sub [0, 1, 2] rfl (gb_X10_letter_67_41 hE C hr  h)
def bb_X10_letter_67_0 (x1 : Int32) (x2 : Int32) (M : Mm) : Option (Int32 × Mm) := ltv (wI M 67 0 (0 : Int32)) fun M_1 => bd (f_X10_isLetter_67 x1 M_1) fun v_3 => if v_3 = 0 then (bb_X10_letter_67_19 x1 x2 (1 : Int32) M_1) else (bb_X10_letter_67_19 x1 x2 (0 : Int32) M_1)
set_option maxHeartbeats 4000000 in
set_option maxRecDepth 100000 in
theorem gb_X10_letter_67_0  {x1 : Int32} {x2 : Int32} {M : Mm} {v : Int32} {M' : Mm} (hE : Has shM (eH E)) (C : Cx RX10 cX10_letter 6 p (rmD 4) s m args meth c E) (hr : meth.sig.returnType = (some .int)) (h : bb_X10_letter_67_0 x1 x2 M = some (v, M')) : G p l e (rmD 4) s m args below meth c E 6 0 0 (QR below args s E 0 0 (some (.int v)) M') 0 [(0, .ref (eA E 67)), (1, .int x1), (2, .int x2)] [] M := by
  unfold bb_X10_letter_67_0 at h
  refine G.aload_n C 0 dX10_letter_0 rfl rfl ?_
  refine G.iconst (v := (0 : Int32)) C dX10_letter_1 (by decide) ?_
  obtain ⟨M_1, eM_1, h⟩ := ltv_ex h
  refine G.putI (k := 0) C k_X10 (sm_67 hE) rfl (by decide) tg_1431 rfl rfl dX10_letter_2 eM_1 ?_
  refine G.aload_n C 0 dX10_letter_5 rfl rfl ?_
  refine G.aload_n C 0 dX10_letter_6 rfl rfl ?_
  refine G.iload_n C 1 dX10_letter_7 rfl rfl ?_
  obtain ⟨v_3, hv_2, h⟩ := bd_ex h
  refine G.callV (rest := [.ref (eA E 67)]) C (s_X10_isLetter_67 hE  hv_2) ⟨tg_1699, tg_103, ok_X10_isLetter, Nat.le_of_ble_eq_true rfl, Nat.le_of_ble_eq_true rfl⟩ tg_1696 tg_1698 tg_62 (sm_67 hE) rfl rfl (Nat.le_of_ble_eq_true rfl) dX10_letter_8 ⟨Nat.le_refl 0, Nat.le_refl 0⟩ ?_
  refine G.if_ne (tgt := 18) C dX10_letter_11 (by decide) (fun hc => ?_) (fun hc => ?_)
  · have h := it_f h hc
    refine G.iconst (v := (0 : Int32)) C dX10_letter_18 (by decide) ?_
    exact G.sub [0, 1, 2] rfl (gb_X10_letter_67_19 hE C hr  h)
  · have h := it_t h hc
    refine G.iconst (v := (1 : Int32)) C dX10_letter_14 (by decide) ?_
    refine G.goto (tgt := 19) C dX10_letter_15 (by decide) ?_
    exact G.sub [0, 1, 2] rfl (gb_X10_letter_67_19 hE C hr  h)
def f_X10_letter_67 (x1 : Int32) (x2 : Int32) (M : Mm) : Option (Int32 × Mm) := bb_X10_letter_67_0 x1 x2 M
theorem s_X10_letter_67 {l : Launch} {E : Ev} {x1 : Int32} {x2 : Int32} {M : Mm} {v : Int32} {M' : Mm} (hE : Has shM (eH E)) (h : f_X10_letter_67 x1 x2 M = some (v, M')) : MetA l yX10_letter cX10_letter 6 (some .int) 4 E [.ref (eA E 67), .int x1, .int x2] M (some (.int v)) M' := by
  refine MetA.of (by decide +kernel) (Nat.le_of_ble_eq_true rfl) ?_
  intro p e s m below meth c C hr hnm
  exact G.sub [0, 1, 2] rfl (gb_X10_letter_67_0 hE C hr  h)
def bb_X10_isHollow_67_0 (x1 : Int32) (M : Mm) : Option Int32 := bd (f_X10_in x1 (0 : Int32) ((M.1 67 19) - (1 : Int32))) fun v_2 => gd (isB v_2) (some v_2)
set_option maxHeartbeats 4000000 in
set_option maxRecDepth 100000 in
theorem gb_X10_isHollow_67_0  {x1 : Int32} {M : Mm} {v : Int32} (hE : Has shM (eH E)) (C : Cx RX10 cX10_isHollow 2 p (rmD 2) s m args meth c E) (hr : meth.sig.returnType = (some .boolean)) (h : bb_X10_isHollow_67_0 x1 M = some v) : G p l e (rmD 2) s m args below meth c E 2 0 0 (QR below args s E 0 0 (some (.int v)) M) 0 [(0, .ref (eA E 67)), (1, .int x1)] [] M := by
  unfold bb_X10_isHollow_67_0 at h
  refine G.iload_n C 1 dX10_isHollow_0 rfl rfl ?_
  refine G.iconst (v := (0 : Int32)) C dX10_isHollow_1 (by decide) ?_
  refine G.aload_n C 0 dX10_isHollow_2 rfl rfl ?_
  refine G.getI (k := 19) C k_X10 (sm_67 hE) rfl (by decide) tg_1450 dX10_isHollow_3 ?_
  refine G.iconst (v := (1 : Int32)) C dX10_isHollow_6 (by decide) ?_
  refine G.isub C dX10_isHollow_7 ?_
  obtain ⟨v_2, hv_1, h⟩ := bd_ex h
  refine G.callS (rest := []) C (s_X10_in  hv_1) ⟨tg_1596, tg_103, ok_X10_in, Nat.le_of_ble_eq_true rfl, Nat.le_of_ble_eq_true rfl⟩ tg_1594 tg_1595 rfl (Nat.le_of_ble_eq_true rfl) dX10_isHollow_8 ⟨Nat.le_refl 0, Nat.le_refl 0⟩ ?_
  obtain ⟨hb_3, h⟩ := gd_ex h
  cases h
  exact G.zret C hr (nz_ok (isB_s hb_3)) dX10_isHollow_11
def f_X10_isHollow_67 (x1 : Int32) (M : Mm) : Option Int32 := bb_X10_isHollow_67_0 x1 M
theorem s_X10_isHollow_67 {l : Launch} {E : Ev} {x1 : Int32} {M : Mm} {v : Int32} (hE : Has shM (eH E)) (h : f_X10_isHollow_67 x1 M = some v) : MetA l yX10_isHollow cX10_isHollow 2 (some .boolean) 2 E [.ref (eA E 67), .int x1] M (some (.int v)) M := by
  refine MetA.of (by decide +kernel) (Nat.le_of_ble_eq_true rfl) ?_
  intro p e s m below meth c C hr hnm
  exact G.sub [0, 1] rfl (gb_X10_isHollow_67_0 hE C hr  h)
def bb_X10_hollow_67_19 (x1 : Int32) (s1 : Int32) (M : Mm) : Option (Int64 × Mm) := bd2 (f_X10_bad_67 s1 (1 : Int32) M) fun v_6 M_5 => if v_6 = 0 then (gd (inb x1 16) (some (M_5.2 91 (ix x1), M_5))) else (some ((0 : Int64), M_5))
set_option maxHeartbeats 4000000 in
set_option maxRecDepth 100000 in
theorem gb_X10_hollow_67_19  {x1 : Int32} {s1 : Int32} {M : Mm} {v : Int64} {M' : Mm} (hE : Has shM (eH E)) (C : Cx RX10 cX10_hollow 2 p (rmD 3) s m args meth c E) (hr : meth.sig.returnType = (some .long)) (h : bb_X10_hollow_67_19 x1 s1 M = some (v, M')) : G p l e (rmD 3) s m args below meth c E 2 0 0 (QR below args s E 0 0 (some (.long v)) M') 19 [(0, .ref (eA E 67)), (1, .int x1)] [.int s1, .ref (eA E 67)] M := by
  unfold bb_X10_hollow_67_19 at h
  refine G.iconst (v := (1 : Int32)) C dX10_hollow_19 (by decide) ?_
  obtain ⟨v_6, M_5, hv_4, h⟩ := bd2_ex h
  refine G.callV (rest := []) C (s_X10_bad_67 hE  hv_4) ⟨tg_1600, tg_103, ok_X10_bad, Nat.le_of_ble_eq_true rfl, Nat.le_of_ble_eq_true rfl⟩ tg_1597 tg_1599 tg_46 (sm_67 hE) rfl rfl (Nat.le_of_ble_eq_true rfl) dX10_hollow_20 ⟨Nat.le_refl 0, Nat.le_refl 0⟩ ?_
  refine G.if_eq (tgt := 28) C dX10_hollow_23 (by decide) (fun hc => ?_) (fun hc => ?_)
  · have h := it_t h hc
    refine G.aload_n C 0 dX10_hollow_28 rfl rfl ?_
    refine G.getR (k := 20) C k_X10 (sm_67 hE) rfl (by decide) tg_1451 dX10_hollow_29 ?_
    refine G.iload_n C 1 dX10_hollow_32 rfl rfl ?_
    obtain ⟨hg_7, h⟩ := gd_ex h
    refine G.aJ (j := ix x1) C (sm_91 hE) hg_7 rfl dX10_hollow_33 ?_
    cases h
    exact G.lret C hr dX10_hollow_34
  · have h := it_f h hc
    refine G.lconst (v := (0 : Int64)) C dX10_hollow_26 (by decide) ?_
    cases h
    exact G.lret C hr dX10_hollow_27
def bb_X10_hollow_67_0 (x1 : Int32) (M : Mm) : Option (Int64 × Mm) := ltv (wI M 67 0 (0 : Int32)) fun M_1 => bd (f_X10_isHollow_67 x1 M_1) fun v_3 => if v_3 = 0 then (bb_X10_hollow_67_19 x1 (1 : Int32) M_1) else (bb_X10_hollow_67_19 x1 (0 : Int32) M_1)
set_option maxHeartbeats 4000000 in
set_option maxRecDepth 100000 in
theorem gb_X10_hollow_67_0  {x1 : Int32} {M : Mm} {v : Int64} {M' : Mm} (hE : Has shM (eH E)) (C : Cx RX10 cX10_hollow 2 p (rmD 3) s m args meth c E) (hr : meth.sig.returnType = (some .long)) (h : bb_X10_hollow_67_0 x1 M = some (v, M')) : G p l e (rmD 3) s m args below meth c E 2 0 0 (QR below args s E 0 0 (some (.long v)) M') 0 [(0, .ref (eA E 67)), (1, .int x1)] [] M := by
  unfold bb_X10_hollow_67_0 at h
  refine G.aload_n C 0 dX10_hollow_0 rfl rfl ?_
  refine G.iconst (v := (0 : Int32)) C dX10_hollow_1 (by decide) ?_
  obtain ⟨M_1, eM_1, h⟩ := ltv_ex h
  refine G.putI (k := 0) C k_X10 (sm_67 hE) rfl (by decide) tg_1431 rfl rfl dX10_hollow_2 eM_1 ?_
  refine G.aload_n C 0 dX10_hollow_5 rfl rfl ?_
  refine G.aload_n C 0 dX10_hollow_6 rfl rfl ?_
  refine G.iload_n C 1 dX10_hollow_7 rfl rfl ?_
  obtain ⟨v_3, hv_2, h⟩ := bd_ex h
  refine G.callV (rest := [.ref (eA E 67)]) C (s_X10_isHollow_67 hE  hv_2) ⟨tg_1722, tg_103, ok_X10_isHollow, Nat.le_of_ble_eq_true rfl, Nat.le_of_ble_eq_true rfl⟩ tg_1719 tg_1721 tg_65 (sm_67 hE) rfl rfl (Nat.le_of_ble_eq_true rfl) dX10_hollow_8 ⟨Nat.le_refl 0, Nat.le_refl 0⟩ ?_
  refine G.if_ne (tgt := 18) C dX10_hollow_11 (by decide) (fun hc => ?_) (fun hc => ?_)
  · have h := it_f h hc
    refine G.iconst (v := (0 : Int32)) C dX10_hollow_18 (by decide) ?_
    exact G.sub [0, 1] rfl (gb_X10_hollow_67_19 hE C hr  h)
  · have h := it_t h hc
    refine G.iconst (v := (1 : Int32)) C dX10_hollow_14 (by decide) ?_
    refine G.goto (tgt := 19) C dX10_hollow_15 (by decide) ?_
    exact G.sub [0, 1] rfl (gb_X10_hollow_67_19 hE C hr  h)
def f_X10_hollow_67 (x1 : Int32) (M : Mm) : Option (Int64 × Mm) := bb_X10_hollow_67_0 x1 M
theorem s_X10_hollow_67 {l : Launch} {E : Ev} {x1 : Int32} {M : Mm} {v : Int64} {M' : Mm} (hE : Has shM (eH E)) (h : f_X10_hollow_67 x1 M = some (v, M')) : MetA l yX10_hollow cX10_hollow 2 (some .long) 3 E [.ref (eA E 67), .int x1] M (some (.long v)) M' := by
  refine MetA.of (by decide +kernel) (Nat.le_of_ble_eq_true rfl) ?_
  intro p e s m below meth c C hr hnm
  exact G.sub [0, 1] rfl (gb_X10_hollow_67_0 hE C hr  h)
def bb_X10_shapeOf_46 (k_9 : Int64 → Int32 → Int32 → Int32 → Option Int64) (x0 : Int64) (x3 : Int32) (x4 : Int32) (s0 : Int32) : Option Int64 := if x3 ≤ (x4 / (8 : Int32)) then (ltv (x4 + (1 : Int32)) fun x4_9 => k_9 x0 s0 x3 x4_9) else (ltv (x4 / (8 : Int32)) fun x3_10 => ltv (x4 + (1 : Int32)) fun x4_11 => k_9 x0 s0 x3_10 x4_11)
set_option maxHeartbeats 4000000 in
set_option maxRecDepth 100000 in
theorem gb_X10_shapeOf_46 {M : Mm}  {k_9 : Int64 → Int32 → Int32 → Int32 → Option Int64} {x0 : Int64} {x3 : Int32} {x4 : Int32} {s0 : Int32} {v : Int64} (C : Cx RX10 cX10_shapeOf 7 p (rmD 2) s m args meth c E) (hr : meth.sig.returnType = (some .long)) (hk_9 : ∀ (x0 : Int64) (x2 : Int32) (x3 : Int32) (x4 : Int32), k_9 x0 x2 x3 x4 = some v → G p l e (rmD 2) s m args below meth c E 7 0 0 (QR below args s E 0 0 (some (.long v)) M) 9 [(0, .long x0), (2, .int x2), (3, .int x3), (4, .int x4)] [] M) (h : bb_X10_shapeOf_46 k_9 x0 x3 x4 s0 = some v) : G p l e (rmD 2) s m args below meth c E 7 0 0 (QR below args s E 0 0 (some (.long v)) M) 46 [(0, .long x0), (3, .int x3), (4, .int x4)] [.int s0] M := by
  unfold bb_X10_shapeOf_46 at h
  refine G.istore_n (L' := [(2, .int s0), (0, .long x0), (3, .int x3), (4, .int x4)]) C dX10_shapeOf_46 rfl rfl (by decide) rfl ?_
  refine G.iload C 3 dX10_shapeOf_47 rfl ?_
  refine G.bipush (v := (8 : Int32)) C dX10_shapeOf_49 (by decide) ?_
  refine G.idiv C dX10_shapeOf_51 (by decide) ?_
  refine G.iload_n C 2 dX10_shapeOf_52 rfl rfl ?_
  refine G.icmp_ge (tgt := 64) C dX10_shapeOf_53 (by decide) (fun hc => ?_) (fun hc => ?_)
  · have h := it_t h hc
    refine G.iload_n C 2 dX10_shapeOf_64 rfl rfl ?_
    refine G.istore_n (L' := [(3, .int x3), (2, .int s0), (0, .long x0), (4, .int x4)]) C dX10_shapeOf_65 rfl rfl (by decide) rfl ?_
    obtain ⟨x4_9, ex4_9, h⟩ := ltv_ex h
    refine G.iinc (L' := [(4, .int x4_9), (3, .int x3), (2, .int s0), (0, .long x0)]) C 3 dX10_shapeOf_66 rfl (ex4_9.trans rfl) (by decide) rfl ?_
    refine G.goto (tgt := 9) C dX10_shapeOf_69 (by decide) ?_
    exact G.sub [3, 2, 1, 0] rfl (hk_9 _ _ _ _  h)
  · have h := it_f h hc
    refine G.iload C 3 dX10_shapeOf_56 rfl ?_
    refine G.bipush (v := (8 : Int32)) C dX10_shapeOf_58 (by decide) ?_
    refine G.idiv C dX10_shapeOf_60 (by decide) ?_
    refine G.goto (tgt := 65) C dX10_shapeOf_61 (by decide) ?_
    obtain ⟨x3_10, ex3_10, h⟩ := ltv_ex h
    refine G.istore_n (L' := [(3, .int x3_10), (2, .int s0), (0, .long x0), (4, .int x4)]) C dX10_shapeOf_65 rfl ex3_10 (by decide) rfl ?_
    obtain ⟨x4_11, ex4_11, h⟩ := ltv_ex h
    refine G.iinc (L' := [(4, .int x4_11), (3, .int x3_10), (2, .int s0), (0, .long x0)]) C 3 dX10_shapeOf_66 rfl (ex4_11.trans rfl) (by decide) rfl ?_
    refine G.goto (tgt := 9) C dX10_shapeOf_69 (by decide) ?_
    exact G.sub [3, 2, 1, 0] rfl (hk_9 _ _ _ _  h)
def bb_X10_shapeOf_78 (k_78 : Int64 → Int32 → Int32 → Int64 → Int32 → Option Int64) (x0 : Int64) (x2 : Int32) (x3 : Int32) (x4 : Int64) (x6 : Int32) : Option Int64 := if (64 : Int32) ≤ x6 then (some x4) else (bd (f_X10_is x0 x6) fun v_5 => if v_5 = 0 then (ltv (x6 + (1 : Int32)) fun x6_6 => k_78 x0 x2 x3 x4 x6_6) else (ltv (x4 ||| (shL (1 : Int64) ((x6 - ((8 : Int32) * x3)) - x2))) fun x4_7 => ltv (x6 + (1 : Int32)) fun x6_8 => k_78 x0 x2 x3 x4_7 x6_8))
set_option maxHeartbeats 4000000 in
set_option maxRecDepth 100000 in
theorem gb_X10_shapeOf_78 {M : Mm}  {k_78 : Int64 → Int32 → Int32 → Int64 → Int32 → Option Int64} {x0 : Int64} {x2 : Int32} {x3 : Int32} {x4 : Int64} {x6 : Int32} {v : Int64} (C : Cx RX10 cX10_shapeOf 7 p (rmD 2) s m args meth c E) (hr : meth.sig.returnType = (some .long)) (hk_78 : ∀ (x0 : Int64) (x2 : Int32) (x3 : Int32) (x4 : Int64) (x6 : Int32), k_78 x0 x2 x3 x4 x6 = some v → G p l e (rmD 2) s m args below meth c E 7 0 0 (QR below args s E 0 0 (some (.long v)) M) 78 [(0, .long x0), (2, .int x2), (3, .int x3), (4, .long x4), (6, .int x6)] [] M) (h : bb_X10_shapeOf_78 k_78 x0 x2 x3 x4 x6 = some v) : G p l e (rmD 2) s m args below meth c E 7 0 0 (QR below args s E 0 0 (some (.long v)) M) 78 [(0, .long x0), (2, .int x2), (3, .int x3), (4, .long x4), (6, .int x6)] [] M := by
  unfold bb_X10_shapeOf_78 at h
  refine G.iload C 4 dX10_shapeOf_78 rfl ?_
  refine G.bipush (v := (64 : Int32)) C dX10_shapeOf_80 (by decide) ?_
  refine G.icmp_ge (tgt := 116) C dX10_shapeOf_82 (by decide) (fun hc => ?_) (fun hc => ?_)
  · have h := it_t h hc
    refine G.lload C 3 dX10_shapeOf_116 rfl ?_
    cases h
    exact G.lret C hr dX10_shapeOf_118
  · have h := it_f h hc
    refine G.lload_n C 0 dX10_shapeOf_85 rfl rfl ?_
    refine G.iload C 4 dX10_shapeOf_86 rfl ?_
    obtain ⟨v_5, hv_4, h⟩ := bd_ex h
    refine G.callS (rest := []) C (s_X10_is  hv_4) ⟨tg_1650, tg_103, ok_X10_is, Nat.le_of_ble_eq_true rfl, Nat.le_of_ble_eq_true rfl⟩ tg_1648 tg_1649 rfl (Nat.le_of_ble_eq_true rfl) dX10_shapeOf_88 ⟨Nat.le_refl 0, Nat.le_refl 0⟩ ?_
    refine G.if_eq (tgt := 110) C dX10_shapeOf_91 (by decide) (fun hc => ?_) (fun hc => ?_)
    · have h := it_t h hc
      obtain ⟨x6_6, ex6_6, h⟩ := ltv_ex h
      refine G.iinc (L' := [(6, .int x6_6), (0, .long x0), (2, .int x2), (3, .int x3), (4, .long x4)]) C 4 dX10_shapeOf_110 rfl (ex6_6.trans rfl) (by decide) rfl ?_
      refine G.goto (tgt := 78) C dX10_shapeOf_113 (by decide) ?_
      exact G.sub [1, 2, 3, 4, 0] rfl (hk_78 _ _ _ _ _  h)
    · have h := it_f h hc
      refine G.lload C 3 dX10_shapeOf_94 rfl ?_
      refine G.lconst (v := (1 : Int64)) C dX10_shapeOf_96 (by decide) ?_
      refine G.iload C 4 dX10_shapeOf_97 rfl ?_
      refine G.bipush (v := (8 : Int32)) C dX10_shapeOf_99 (by decide) ?_
      refine G.iload_n C 2 dX10_shapeOf_101 rfl rfl ?_
      refine G.imul C dX10_shapeOf_102 ?_
      refine G.isub C dX10_shapeOf_103 ?_
      refine G.iload_n C 1 dX10_shapeOf_104 rfl rfl ?_
      refine G.isub C dX10_shapeOf_105 ?_
      refine G.lshl (v := shL (1 : Int64) ((x6 - ((8 : Int32) * x3)) - x2)) C dX10_shapeOf_106 rfl ?_
      refine G.lor C dX10_shapeOf_107 ?_
      obtain ⟨x4_7, ex4_7, h⟩ := ltv_ex h
      refine G.lstore (L' := [(4, .long x4_7), (0, .long x0), (2, .int x2), (3, .int x3), (6, .int x6)]) C dX10_shapeOf_108 ex4_7 (by decide) rfl ?_
      obtain ⟨x6_8, ex6_8, h⟩ := ltv_ex h
      refine G.iinc (L' := [(6, .int x6_8), (4, .long x4_7), (0, .long x0), (2, .int x2), (3, .int x3)]) C 4 dX10_shapeOf_110 rfl (ex6_8.trans rfl) (by decide) rfl ?_
      refine G.goto (tgt := 78) C dX10_shapeOf_113 (by decide) ?_
      exact G.sub [2, 3, 4, 1, 0] rfl (hk_78 _ _ _ _ _  h)
def b_X10_shapeOf_78 : Nat → Int64 → Int32 → Int32 → Int64 → Int32 → Option Int64
  | 0, _, _, _, _, _ => none
  | n + 1, x0, x2, x3, x4, x6 => bb_X10_shapeOf_78 (b_X10_shapeOf_78 n) x0 x2 x3 x4 x6
set_option maxHeartbeats 4000000 in
theorem g_X10_shapeOf_78 {M : Mm}  {n : Nat} {x0 : Int64} {x2 : Int32} {x3 : Int32} {x4 : Int64} {x6 : Int32} {v : Int64} (C : Cx RX10 cX10_shapeOf 7 p (rmD 2) s m args meth c E) (hr : meth.sig.returnType = (some .long)) (h : b_X10_shapeOf_78 n x0 x2 x3 x4 x6 = some v) : G p l e (rmD 2) s m args below meth c E 7 0 0 (QR below args s E 0 0 (some (.long v)) M) 78 [(0, .long x0), (2, .int x2), (3, .int x3), (4, .long x4), (6, .int x6)] [] M := by
  induction n generalizing x0 x2 x3 x4 x6 with
  | zero => cases h
  | succ n ih => exact gb_X10_shapeOf_78 C hr (fun _ _ _ _ _ => ih)  h
def bb_X10_shapeOf_9 (k_9 : Int64 → Int32 → Int32 → Int32 → Option Int64) (x0 : Int64) (x2 : Int32) (x3 : Int32) (x4 : Int32) : Option Int64 := if (64 : Int32) ≤ x4 then (b_X10_shapeOf_78 FU x0 x2 x3 (0 : Int64) (0 : Int32)) else (bd (f_X10_is x0 x4) fun v_2 => if v_2 = 0 then (ltv (x4 + (1 : Int32)) fun x4_3 => k_9 x0 x2 x3 x4_3) else (if x2 ≤ (rmI x4 (8 : Int32)) then (bb_X10_shapeOf_46 k_9 x0 x3 x4 x2) else (bb_X10_shapeOf_46 k_9 x0 x3 x4 (rmI x4 (8 : Int32)))))
set_option maxHeartbeats 4000000 in
set_option maxRecDepth 100000 in
theorem gb_X10_shapeOf_9 {M : Mm}  {k_9 : Int64 → Int32 → Int32 → Int32 → Option Int64} {x0 : Int64} {x2 : Int32} {x3 : Int32} {x4 : Int32} {v : Int64} (C : Cx RX10 cX10_shapeOf 7 p (rmD 2) s m args meth c E) (hr : meth.sig.returnType = (some .long)) (hk_9 : ∀ (x0 : Int64) (x2 : Int32) (x3 : Int32) (x4 : Int32), k_9 x0 x2 x3 x4 = some v → G p l e (rmD 2) s m args below meth c E 7 0 0 (QR below args s E 0 0 (some (.long v)) M) 9 [(0, .long x0), (2, .int x2), (3, .int x3), (4, .int x4)] [] M) (h : bb_X10_shapeOf_9 k_9 x0 x2 x3 x4 = some v) : G p l e (rmD 2) s m args below meth c E 7 0 0 (QR below args s E 0 0 (some (.long v)) M) 9 [(0, .long x0), (2, .int x2), (3, .int x3), (4, .int x4)] [] M := by
  unfold bb_X10_shapeOf_9 at h
  refine G.iload C 3 dX10_shapeOf_9 rfl ?_
  refine G.bipush (v := (64 : Int32)) C dX10_shapeOf_11 (by decide) ?_
  refine G.icmp_ge (tgt := 72) C dX10_shapeOf_13 (by decide) (fun hc => ?_) (fun hc => ?_)
  · have h := it_t h hc
    refine G.lconst (v := (0 : Int64)) C dX10_shapeOf_72 (by decide) ?_
    refine G.lstore (L' := [(4, .long (0 : Int64)), (0, .long x0), (2, .int x2), (3, .int x3)]) C dX10_shapeOf_73 rfl (by decide) rfl ?_
    refine G.iconst (v := (0 : Int32)) C dX10_shapeOf_75 (by decide) ?_
    refine G.istore (L' := [(6, .int (0 : Int32)), (4, .long (0 : Int64)), (0, .long x0), (2, .int x2), (3, .int x3)]) C dX10_shapeOf_76 rfl (by decide) rfl ?_
    exact G.sub [2, 3, 4, 1, 0] rfl (g_X10_shapeOf_78 C hr  h)
  · have h := it_f h hc
    refine G.lload_n C 0 dX10_shapeOf_16 rfl rfl ?_
    refine G.iload C 3 dX10_shapeOf_17 rfl ?_
    obtain ⟨v_2, hv_1, h⟩ := bd_ex h
    refine G.callS (rest := []) C (s_X10_is  hv_1) ⟨tg_1650, tg_103, ok_X10_is, Nat.le_of_ble_eq_true rfl, Nat.le_of_ble_eq_true rfl⟩ tg_1648 tg_1649 rfl (Nat.le_of_ble_eq_true rfl) dX10_shapeOf_19 ⟨Nat.le_refl 0, Nat.le_refl 0⟩ ?_
    refine G.if_ne (tgt := 28) C dX10_shapeOf_22 (by decide) (fun hc => ?_) (fun hc => ?_)
    · have h := it_f h hc
      refine G.iload C 3 dX10_shapeOf_28 rfl ?_
      refine G.bipush (v := (8 : Int32)) C dX10_shapeOf_30 (by decide) ?_
      refine G.irm C dX10_shapeOf_32 (by decide) ?_
      refine G.iload_n C 1 dX10_shapeOf_33 rfl rfl ?_
      refine G.icmp_ge (tgt := 45) C dX10_shapeOf_34 (by decide) (fun hc => ?_) (fun hc => ?_)
      · have h := it_t h hc
        refine G.iload_n C 1 dX10_shapeOf_45 rfl rfl ?_
        exact G.sub [0, 2, 3] rfl (gb_X10_shapeOf_46 C hr hk_9  h)
      · have h := it_f h hc
        refine G.iload C 3 dX10_shapeOf_37 rfl ?_
        refine G.bipush (v := (8 : Int32)) C dX10_shapeOf_39 (by decide) ?_
        refine G.irm C dX10_shapeOf_41 (by decide) ?_
        refine G.goto (tgt := 46) C dX10_shapeOf_42 (by decide) ?_
        exact G.sub [0, 2, 3] rfl (gb_X10_shapeOf_46 C hr hk_9  h)
    · have h := it_t h hc
      refine G.goto (tgt := 66) C dX10_shapeOf_25 (by decide) ?_
      obtain ⟨x4_3, ex4_3, h⟩ := ltv_ex h
      refine G.iinc (L' := [(4, .int x4_3), (0, .long x0), (2, .int x2), (3, .int x3)]) C 3 dX10_shapeOf_66 rfl (ex4_3.trans rfl) (by decide) rfl ?_
      refine G.goto (tgt := 9) C dX10_shapeOf_69 (by decide) ?_
      exact G.sub [1, 2, 3, 0] rfl (hk_9 _ _ _ _  h)
def b_X10_shapeOf_9 : Nat → Int64 → Int32 → Int32 → Int32 → Option Int64
  | 0, _, _, _, _ => none
  | n + 1, x0, x2, x3, x4 => bb_X10_shapeOf_9 (b_X10_shapeOf_9 n) x0 x2 x3 x4
set_option maxHeartbeats 4000000 in
theorem g_X10_shapeOf_9 {M : Mm}  {n : Nat} {x0 : Int64} {x2 : Int32} {x3 : Int32} {x4 : Int32} {v : Int64} (C : Cx RX10 cX10_shapeOf 7 p (rmD 2) s m args meth c E) (hr : meth.sig.returnType = (some .long)) (h : b_X10_shapeOf_9 n x0 x2 x3 x4 = some v) : G p l e (rmD 2) s m args below meth c E 7 0 0 (QR below args s E 0 0 (some (.long v)) M) 9 [(0, .long x0), (2, .int x2), (3, .int x3), (4, .int x4)] [] M := by
  induction n generalizing x0 x2 x3 x4 with
  | zero => cases h
  | succ n ih => exact gb_X10_shapeOf_9 C hr (fun _ _ _ _ => ih)  h
def bb_X10_shapeOf_0 (x0 : Int64) : Option Int64 := b_X10_shapeOf_9 FU x0 (8 : Int32) (8 : Int32) (0 : Int32)
set_option maxHeartbeats 4000000 in
set_option maxRecDepth 100000 in
theorem gb_X10_shapeOf_0 {M : Mm}  {x0 : Int64} {v : Int64} (C : Cx RX10 cX10_shapeOf 7 p (rmD 2) s m args meth c E) (hr : meth.sig.returnType = (some .long)) (h : bb_X10_shapeOf_0 x0 = some v) : G p l e (rmD 2) s m args below meth c E 7 0 0 (QR below args s E 0 0 (some (.long v)) M) 0 [(0, .long x0)] [] M := by
  unfold bb_X10_shapeOf_0 at h
  refine G.bipush (v := (8 : Int32)) C dX10_shapeOf_0 (by decide) ?_
  refine G.istore_n (L' := [(2, .int (8 : Int32)), (0, .long x0)]) C dX10_shapeOf_2 rfl rfl (by decide) rfl ?_
  refine G.bipush (v := (8 : Int32)) C dX10_shapeOf_3 (by decide) ?_
  refine G.istore_n (L' := [(3, .int (8 : Int32)), (2, .int (8 : Int32)), (0, .long x0)]) C dX10_shapeOf_5 rfl rfl (by decide) rfl ?_
  refine G.iconst (v := (0 : Int32)) C dX10_shapeOf_6 (by decide) ?_
  refine G.istore (L' := [(4, .int (0 : Int32)), (3, .int (8 : Int32)), (2, .int (8 : Int32)), (0, .long x0)]) C dX10_shapeOf_7 rfl (by decide) rfl ?_
  exact G.sub [3, 2, 1, 0] rfl (g_X10_shapeOf_9 C hr  h)
def f_X10_shapeOf (x0 : Int64) : Option Int64 := bb_X10_shapeOf_0 x0
theorem s_X10_shapeOf {l : Launch} {E : Ev} {x0 : Int64} {M : Mm} {v : Int64} (h : f_X10_shapeOf x0 = some v) : MetA l yX10_shapeOf cX10_shapeOf 7 (some .long) 2 E [.long x0] M (some (.long v)) M := by
  refine MetA.of (by decide +kernel) (Nat.le_of_ble_eq_true rfl) ?_
  intro p e s m below meth c C hr hnm
  exact G.sub [0] rfl (gb_X10_shapeOf_0 C hr  h)
def bb_X10_shape_67_0 (x1 : Int64) (M : Mm) : Option (Int64 × Mm) := ltv (wI M 67 0 (0 : Int32)) fun M_1 => bd (f_X10_shapeOf x1) fun v_3 => some (v_3, M_1)
set_option maxHeartbeats 4000000 in
set_option maxRecDepth 100000 in
theorem gb_X10_shape_67_0  {x1 : Int64} {M : Mm} {v : Int64} {M' : Mm} (hE : Has shM (eH E)) (C : Cx RX10 cX10_shape 3 p (rmD 3) s m args meth c E) (hr : meth.sig.returnType = (some .long)) (h : bb_X10_shape_67_0 x1 M = some (v, M')) : G p l e (rmD 3) s m args below meth c E 3 0 0 (QR below args s E 0 0 (some (.long v)) M') 0 [(0, .ref (eA E 67)), (1, .long x1)] [] M := by
  unfold bb_X10_shape_67_0 at h
  refine G.aload_n C 0 dX10_shape_0 rfl rfl ?_
  refine G.iconst (v := (0 : Int32)) C dX10_shape_1 (by decide) ?_
  obtain ⟨M_1, eM_1, h⟩ := ltv_ex h
  refine G.putI (k := 0) C k_X10 (sm_67 hE) rfl (by decide) tg_1431 rfl rfl dX10_shape_2 eM_1 ?_
  refine G.lload_n C 1 dX10_shape_5 rfl rfl ?_
  obtain ⟨v_3, hv_2, h⟩ := bd_ex h
  refine G.callS (rest := []) C (s_X10_shapeOf  hv_2) ⟨tg_1729, tg_103, ok_X10_shapeOf, Nat.le_of_ble_eq_true rfl, Nat.le_of_ble_eq_true rfl⟩ tg_1727 tg_1728 rfl (Nat.le_of_ble_eq_true rfl) dX10_shape_6 ⟨Nat.le_refl 0, Nat.le_refl 0⟩ ?_
  cases h
  exact G.lret C hr dX10_shape_9
def f_X10_shape_67 (x1 : Int64) (M : Mm) : Option (Int64 × Mm) := bb_X10_shape_67_0 x1 M
theorem s_X10_shape_67 {l : Launch} {E : Ev} {x1 : Int64} {M : Mm} {v : Int64} {M' : Mm} (hE : Has shM (eH E)) (h : f_X10_shape_67 x1 M = some (v, M')) : MetA l yX10_shape cX10_shape 3 (some .long) 3 E [.ref (eA E 67), .long x1] M (some (.long v)) M' := by
  refine MetA.of (by decide +kernel) (Nat.le_of_ble_eq_true rfl) ?_
  intro p e s m below meth c C hr hnm
  exact G.sub [0, 1] rfl (gb_X10_shape_67_0 hE C hr  h)
def bb_X10_mirrored_5 (k_5 : Int64 → Int64 → Int32 → Option Int64) (x0 : Int64) (x2 : Int64) (x4 : Int32) : Option Int64 := if (64 : Int32) ≤ x4 then (some x2) else (bd (f_X10_is x0 x4) fun v_2 => if v_2 = 0 then (ltv (x4 + (1 : Int32)) fun x4_3 => k_5 x0 x2 x4_3) else (ltv (x2 ||| (shL (1 : Int64) (((x4 - (rmI x4 (8 : Int32))) + (7 : Int32)) - (rmI x4 (8 : Int32))))) fun x2_4 => ltv (x4 + (1 : Int32)) fun x4_5 => k_5 x0 x2_4 x4_5))
set_option maxHeartbeats 4000000 in
set_option maxRecDepth 100000 in
theorem gb_X10_mirrored_5 {M : Mm}  {k_5 : Int64 → Int64 → Int32 → Option Int64} {x0 : Int64} {x2 : Int64} {x4 : Int32} {v : Int64} (C : Cx RX10 cX10_mirrored 5 p (rmD 2) s m args meth c E) (hr : meth.sig.returnType = (some .long)) (hk_5 : ∀ (x0 : Int64) (x2 : Int64) (x4 : Int32), k_5 x0 x2 x4 = some v → G p l e (rmD 2) s m args below meth c E 5 0 0 (QR below args s E 0 0 (some (.long v)) M) 5 [(0, .long x0), (2, .long x2), (4, .int x4)] [] M) (h : bb_X10_mirrored_5 k_5 x0 x2 x4 = some v) : G p l e (rmD 2) s m args below meth c E 5 0 0 (QR below args s E 0 0 (some (.long v)) M) 5 [(0, .long x0), (2, .long x2), (4, .int x4)] [] M := by
  unfold bb_X10_mirrored_5 at h
  refine G.iload C 2 dX10_mirrored_5 rfl ?_
  refine G.bipush (v := (64 : Int32)) C dX10_mirrored_7 (by decide) ?_
  refine G.icmp_ge (tgt := 49) C dX10_mirrored_9 (by decide) (fun hc => ?_) (fun hc => ?_)
  · have h := it_t h hc
    refine G.lload_n C 1 dX10_mirrored_49 rfl rfl ?_
    cases h
    exact G.lret C hr dX10_mirrored_50
  · have h := it_f h hc
    refine G.lload_n C 0 dX10_mirrored_12 rfl rfl ?_
    refine G.iload C 2 dX10_mirrored_13 rfl ?_
    obtain ⟨v_2, hv_1, h⟩ := bd_ex h
    refine G.callS (rest := []) C (s_X10_is  hv_1) ⟨tg_1650, tg_103, ok_X10_is, Nat.le_of_ble_eq_true rfl, Nat.le_of_ble_eq_true rfl⟩ tg_1648 tg_1649 rfl (Nat.le_of_ble_eq_true rfl) dX10_mirrored_15 ⟨Nat.le_refl 0, Nat.le_refl 0⟩ ?_
    refine G.if_eq (tgt := 43) C dX10_mirrored_18 (by decide) (fun hc => ?_) (fun hc => ?_)
    · have h := it_t h hc
      obtain ⟨x4_3, ex4_3, h⟩ := ltv_ex h
      refine G.iinc (L' := [(4, .int x4_3), (0, .long x0), (2, .long x2)]) C 2 dX10_mirrored_43 rfl (ex4_3.trans rfl) (by decide) rfl ?_
      refine G.goto (tgt := 5) C dX10_mirrored_46 (by decide) ?_
      exact G.sub [1, 2, 0] rfl (hk_5 _ _ _  h)
    · have h := it_f h hc
      refine G.lload_n C 1 dX10_mirrored_21 rfl rfl ?_
      refine G.lconst (v := (1 : Int64)) C dX10_mirrored_22 (by decide) ?_
      refine G.iload C 2 dX10_mirrored_23 rfl ?_
      refine G.iload C 2 dX10_mirrored_25 rfl ?_
      refine G.bipush (v := (8 : Int32)) C dX10_mirrored_27 (by decide) ?_
      refine G.irm C dX10_mirrored_29 (by decide) ?_
      refine G.isub C dX10_mirrored_30 ?_
      refine G.bipush (v := (7 : Int32)) C dX10_mirrored_31 (by decide) ?_
      refine G.iadd C dX10_mirrored_33 ?_
      refine G.iload C 2 dX10_mirrored_34 rfl ?_
      refine G.bipush (v := (8 : Int32)) C dX10_mirrored_36 (by decide) ?_
      refine G.irm C dX10_mirrored_38 (by decide) ?_
      refine G.isub C dX10_mirrored_39 ?_
      refine G.lshl (v := shL (1 : Int64) (((x4 - (rmI x4 (8 : Int32))) + (7 : Int32)) - (rmI x4 (8 : Int32)))) C dX10_mirrored_40 rfl ?_
      refine G.lor C dX10_mirrored_41 ?_
      obtain ⟨x2_4, ex2_4, h⟩ := ltv_ex h
      refine G.lstore_n (L' := [(2, .long x2_4), (0, .long x0), (4, .int x4)]) C dX10_mirrored_42 rfl ex2_4 (by decide) rfl ?_
      obtain ⟨x4_5, ex4_5, h⟩ := ltv_ex h
      refine G.iinc (L' := [(4, .int x4_5), (2, .long x2_4), (0, .long x0)]) C 2 dX10_mirrored_43 rfl (ex4_5.trans rfl) (by decide) rfl ?_
      refine G.goto (tgt := 5) C dX10_mirrored_46 (by decide) ?_
      exact G.sub [2, 1, 0] rfl (hk_5 _ _ _  h)
def b_X10_mirrored_5 : Nat → Int64 → Int64 → Int32 → Option Int64
  | 0, _, _, _ => none
  | n + 1, x0, x2, x4 => bb_X10_mirrored_5 (b_X10_mirrored_5 n) x0 x2 x4
set_option maxHeartbeats 4000000 in
theorem g_X10_mirrored_5 {M : Mm}  {n : Nat} {x0 : Int64} {x2 : Int64} {x4 : Int32} {v : Int64} (C : Cx RX10 cX10_mirrored 5 p (rmD 2) s m args meth c E) (hr : meth.sig.returnType = (some .long)) (h : b_X10_mirrored_5 n x0 x2 x4 = some v) : G p l e (rmD 2) s m args below meth c E 5 0 0 (QR below args s E 0 0 (some (.long v)) M) 5 [(0, .long x0), (2, .long x2), (4, .int x4)] [] M := by
  induction n generalizing x0 x2 x4 with
  | zero => cases h
  | succ n ih => exact gb_X10_mirrored_5 C hr (fun _ _ _ => ih)  h
def bb_X10_mirrored_0 (x0 : Int64) : Option Int64 := b_X10_mirrored_5 FU x0 (0 : Int64) (0 : Int32)
set_option maxHeartbeats 4000000 in
set_option maxRecDepth 100000 in
theorem gb_X10_mirrored_0 {M : Mm}  {x0 : Int64} {v : Int64} (C : Cx RX10 cX10_mirrored 5 p (rmD 2) s m args meth c E) (hr : meth.sig.returnType = (some .long)) (h : bb_X10_mirrored_0 x0 = some v) : G p l e (rmD 2) s m args below meth c E 5 0 0 (QR below args s E 0 0 (some (.long v)) M) 0 [(0, .long x0)] [] M := by
  unfold bb_X10_mirrored_0 at h
  refine G.lconst (v := (0 : Int64)) C dX10_mirrored_0 (by decide) ?_
  refine G.lstore_n (L' := [(2, .long (0 : Int64)), (0, .long x0)]) C dX10_mirrored_1 rfl rfl (by decide) rfl ?_
  refine G.iconst (v := (0 : Int32)) C dX10_mirrored_2 (by decide) ?_
  refine G.istore (L' := [(4, .int (0 : Int32)), (2, .long (0 : Int64)), (0, .long x0)]) C dX10_mirrored_3 rfl (by decide) rfl ?_
  exact G.sub [2, 1, 0] rfl (g_X10_mirrored_5 C hr  h)
def f_X10_mirrored (x0 : Int64) : Option Int64 := bb_X10_mirrored_0 x0
theorem s_X10_mirrored {l : Launch} {E : Ev} {x0 : Int64} {M : Mm} {v : Int64} (h : f_X10_mirrored x0 = some v) : MetA l yX10_mirrored cX10_mirrored 5 (some .long) 2 E [.long x0] M (some (.long v)) M := by
  refine MetA.of (by decide +kernel) (Nat.le_of_ble_eq_true rfl) ?_
  intro p e s m below meth c C hr hnm
  exact G.sub [0] rfl (gb_X10_mirrored_0 C hr  h)
def bb_X10_quarter_5 (k_5 : Int64 → Int64 → Int32 → Option Int64) (x0 : Int64) (x2 : Int64) (x4 : Int32) : Option Int64 := if (64 : Int32) ≤ x4 then (some x2) else (bd (f_X10_is x0 x4) fun v_2 => if v_2 = 0 then (ltv (x4 + (1 : Int32)) fun x4_3 => k_5 x0 x2 x4_3) else (ltv (x2 ||| (shL (1 : Int64) ((((8 : Int32) * (rmI x4 (8 : Int32))) + (7 : Int32)) - (x4 / (8 : Int32))))) fun x2_4 => ltv (x4 + (1 : Int32)) fun x4_5 => k_5 x0 x2_4 x4_5))
set_option maxHeartbeats 4000000 in
set_option maxRecDepth 100000 in
theorem gb_X10_quarter_5 {M : Mm}  {k_5 : Int64 → Int64 → Int32 → Option Int64} {x0 : Int64} {x2 : Int64} {x4 : Int32} {v : Int64} (C : Cx RX10 cX10_quarter 5 p (rmD 2) s m args meth c E) (hr : meth.sig.returnType = (some .long)) (hk_5 : ∀ (x0 : Int64) (x2 : Int64) (x4 : Int32), k_5 x0 x2 x4 = some v → G p l e (rmD 2) s m args below meth c E 5 0 0 (QR below args s E 0 0 (some (.long v)) M) 5 [(0, .long x0), (2, .long x2), (4, .int x4)] [] M) (h : bb_X10_quarter_5 k_5 x0 x2 x4 = some v) : G p l e (rmD 2) s m args below meth c E 5 0 0 (QR below args s E 0 0 (some (.long v)) M) 5 [(0, .long x0), (2, .long x2), (4, .int x4)] [] M := by
  unfold bb_X10_quarter_5 at h
  refine G.iload C 2 dX10_quarter_5 rfl ?_
  refine G.bipush (v := (64 : Int32)) C dX10_quarter_7 (by decide) ?_
  refine G.icmp_ge (tgt := 49) C dX10_quarter_9 (by decide) (fun hc => ?_) (fun hc => ?_)
  · have h := it_t h hc
    refine G.lload_n C 1 dX10_quarter_49 rfl rfl ?_
    cases h
    exact G.lret C hr dX10_quarter_50
  · have h := it_f h hc
    refine G.lload_n C 0 dX10_quarter_12 rfl rfl ?_
    refine G.iload C 2 dX10_quarter_13 rfl ?_
    obtain ⟨v_2, hv_1, h⟩ := bd_ex h
    refine G.callS (rest := []) C (s_X10_is  hv_1) ⟨tg_1650, tg_103, ok_X10_is, Nat.le_of_ble_eq_true rfl, Nat.le_of_ble_eq_true rfl⟩ tg_1648 tg_1649 rfl (Nat.le_of_ble_eq_true rfl) dX10_quarter_15 ⟨Nat.le_refl 0, Nat.le_refl 0⟩ ?_
    refine G.if_eq (tgt := 43) C dX10_quarter_18 (by decide) (fun hc => ?_) (fun hc => ?_)
    · have h := it_t h hc
      obtain ⟨x4_3, ex4_3, h⟩ := ltv_ex h
      refine G.iinc (L' := [(4, .int x4_3), (0, .long x0), (2, .long x2)]) C 2 dX10_quarter_43 rfl (ex4_3.trans rfl) (by decide) rfl ?_
      refine G.goto (tgt := 5) C dX10_quarter_46 (by decide) ?_
      exact G.sub [1, 2, 0] rfl (hk_5 _ _ _  h)
    · have h := it_f h hc
      refine G.lload_n C 1 dX10_quarter_21 rfl rfl ?_
      refine G.lconst (v := (1 : Int64)) C dX10_quarter_22 (by decide) ?_
      refine G.bipush (v := (8 : Int32)) C dX10_quarter_23 (by decide) ?_
      refine G.iload C 2 dX10_quarter_25 rfl ?_
      refine G.bipush (v := (8 : Int32)) C dX10_quarter_27 (by decide) ?_
      refine G.irm C dX10_quarter_29 (by decide) ?_
      refine G.imul C dX10_quarter_30 ?_
      refine G.bipush (v := (7 : Int32)) C dX10_quarter_31 (by decide) ?_
      refine G.iadd C dX10_quarter_33 ?_
      refine G.iload C 2 dX10_quarter_34 rfl ?_
      refine G.bipush (v := (8 : Int32)) C dX10_quarter_36 (by decide) ?_
      refine G.idiv C dX10_quarter_38 (by decide) ?_
      refine G.isub C dX10_quarter_39 ?_
      refine G.lshl (v := shL (1 : Int64) ((((8 : Int32) * (rmI x4 (8 : Int32))) + (7 : Int32)) - (x4 / (8 : Int32)))) C dX10_quarter_40 rfl ?_
      refine G.lor C dX10_quarter_41 ?_
      obtain ⟨x2_4, ex2_4, h⟩ := ltv_ex h
      refine G.lstore_n (L' := [(2, .long x2_4), (0, .long x0), (4, .int x4)]) C dX10_quarter_42 rfl ex2_4 (by decide) rfl ?_
      obtain ⟨x4_5, ex4_5, h⟩ := ltv_ex h
      refine G.iinc (L' := [(4, .int x4_5), (2, .long x2_4), (0, .long x0)]) C 2 dX10_quarter_43 rfl (ex4_5.trans rfl) (by decide) rfl ?_
      refine G.goto (tgt := 5) C dX10_quarter_46 (by decide) ?_
      exact G.sub [2, 1, 0] rfl (hk_5 _ _ _  h)
def b_X10_quarter_5 : Nat → Int64 → Int64 → Int32 → Option Int64
  | 0, _, _, _ => none
  | n + 1, x0, x2, x4 => bb_X10_quarter_5 (b_X10_quarter_5 n) x0 x2 x4
set_option maxHeartbeats 4000000 in
theorem g_X10_quarter_5 {M : Mm}  {n : Nat} {x0 : Int64} {x2 : Int64} {x4 : Int32} {v : Int64} (C : Cx RX10 cX10_quarter 5 p (rmD 2) s m args meth c E) (hr : meth.sig.returnType = (some .long)) (h : b_X10_quarter_5 n x0 x2 x4 = some v) : G p l e (rmD 2) s m args below meth c E 5 0 0 (QR below args s E 0 0 (some (.long v)) M) 5 [(0, .long x0), (2, .long x2), (4, .int x4)] [] M := by
  induction n generalizing x0 x2 x4 with
  | zero => cases h
  | succ n ih => exact gb_X10_quarter_5 C hr (fun _ _ _ => ih)  h
def bb_X10_quarter_0 (x0 : Int64) : Option Int64 := b_X10_quarter_5 FU x0 (0 : Int64) (0 : Int32)
set_option maxHeartbeats 4000000 in
set_option maxRecDepth 100000 in
theorem gb_X10_quarter_0 {M : Mm}  {x0 : Int64} {v : Int64} (C : Cx RX10 cX10_quarter 5 p (rmD 2) s m args meth c E) (hr : meth.sig.returnType = (some .long)) (h : bb_X10_quarter_0 x0 = some v) : G p l e (rmD 2) s m args below meth c E 5 0 0 (QR below args s E 0 0 (some (.long v)) M) 0 [(0, .long x0)] [] M := by
  unfold bb_X10_quarter_0 at h
  refine G.lconst (v := (0 : Int64)) C dX10_quarter_0 (by decide) ?_
  refine G.lstore_n (L' := [(2, .long (0 : Int64)), (0, .long x0)]) C dX10_quarter_1 rfl rfl (by decide) rfl ?_
  refine G.iconst (v := (0 : Int32)) C dX10_quarter_2 (by decide) ?_
  refine G.istore (L' := [(4, .int (0 : Int32)), (2, .long (0 : Int64)), (0, .long x0)]) C dX10_quarter_3 rfl (by decide) rfl ?_
  exact G.sub [2, 1, 0] rfl (g_X10_quarter_5 C hr  h)
def f_X10_quarter (x0 : Int64) : Option Int64 := bb_X10_quarter_0 x0
theorem s_X10_quarter {l : Launch} {E : Ev} {x0 : Int64} {M : Mm} {v : Int64} (h : f_X10_quarter x0 = some v) : MetA l yX10_quarter cX10_quarter 5 (some .long) 2 E [.long x0] M (some (.long v)) M := by
  refine MetA.of (by decide +kernel) (Nat.le_of_ble_eq_true rfl) ?_
  intro p e s m below meth c C hr hnm
  exact G.sub [0] rfl (gb_X10_quarter_0 C hr  h)
def bb_X10_apartOf_48 (k_16 : Int32 → Int64 → Int64 → Int32 → Int32 → Option Int32) (x4 : Int32) (x5 : Int64) (x9 : Int32) (x10 : Int32) (s0 : Int64) : Option Int32 := bd (f_X10_shapeOf s0) fun v_6 => bd (f_X10_ones (v_6 ^^^ x5)) fun v_8 => if x9 ≤ v_8 then (bd (f_X10_quarter s0) fun v_10 => ltv (x10 + (1 : Int32)) fun x10_11 => k_16 x4 x5 v_10 x9 x10_11) else (bd (f_X10_quarter s0) fun v_13 => ltv (x10 + (1 : Int32)) fun x10_14 => k_16 x4 x5 v_13 v_8 x10_14)
set_option maxHeartbeats 4000000 in
set_option maxRecDepth 100000 in
theorem gb_X10_apartOf_48 {M : Mm}  {k_16 : Int32 → Int64 → Int64 → Int32 → Int32 → Option Int32} {x4 : Int32} {x5 : Int64} {x9 : Int32} {x10 : Int32} {s0 : Int64} {v : Int32} (C : Cx RX10 cX10_apartOf 12 p (rmD 3) s m args meth c E) (hr : meth.sig.returnType = (some .int)) (hk_16 : ∀ (x4 : Int32) (x5 : Int64) (x7 : Int64) (x9 : Int32) (x10 : Int32), k_16 x4 x5 x7 x9 x10 = some v → G p l e (rmD 3) s m args below meth c E 12 0 0 (QR below args s E 0 0 (some (.int v)) M) 16 [(4, .int x4), (5, .long x5), (7, .long x7), (9, .int x9), (10, .int x10)] [] M) (h : bb_X10_apartOf_48 k_16 x4 x5 x9 x10 s0 = some v) : G p l e (rmD 3) s m args below meth c E 12 0 0 (QR below args s E 0 0 (some (.int v)) M) 48 [(4, .int x4), (5, .long x5), (9, .int x9), (10, .int x10)] [.long s0] M := by
  unfold bb_X10_apartOf_48 at h
  refine G.lstore (L' := [(7, .long s0), (4, .int x4), (5, .long x5), (9, .int x9), (10, .int x10)]) C dX10_apartOf_48 rfl (by decide) rfl ?_
  refine G.lload C 0 dX10_apartOf_50 rfl ?_
  obtain ⟨v_6, hv_5, h⟩ := bd_ex h
  refine G.callS (rest := []) C (s_X10_shapeOf  hv_5) ⟨tg_1729, tg_103, ok_X10_shapeOf, Nat.le_of_ble_eq_true rfl, Nat.le_of_ble_eq_true rfl⟩ tg_1727 tg_1728 rfl (Nat.le_of_ble_eq_true rfl) dX10_apartOf_52 ⟨Nat.le_refl 0, Nat.le_refl 0⟩ ?_
  refine G.lload C 2 dX10_apartOf_55 rfl ?_
  refine G.lxor C dX10_apartOf_57 ?_
  obtain ⟨v_8, hv_7, h⟩ := bd_ex h
  refine G.callS (rest := []) C (s_X10_ones  hv_7) ⟨tg_1706, tg_103, ok_X10_ones, Nat.le_of_ble_eq_true rfl, Nat.le_of_ble_eq_true rfl⟩ tg_1704 tg_1705 rfl (Nat.le_of_ble_eq_true rfl) dX10_apartOf_58 ⟨Nat.le_refl 0, Nat.le_refl 0⟩ ?_
  refine G.istore (L' := [(11, .int v_8), (7, .long s0), (4, .int x4), (5, .long x5), (9, .int x9), (10, .int x10)]) C dX10_apartOf_61 rfl (by decide) rfl ?_
  refine G.iload C 0 dX10_apartOf_63 rfl ?_
  refine G.iload C 4 dX10_apartOf_65 rfl ?_
  refine G.icmp_ge (tgt := 75) C dX10_apartOf_67 (by decide) (fun hc => ?_) (fun hc => ?_)
  · have h := it_t h hc
    refine G.iload C 4 dX10_apartOf_75 rfl ?_
    refine G.istore (L' := [(9, .int x9), (11, .int v_8), (7, .long s0), (4, .int x4), (5, .long x5), (10, .int x10)]) C dX10_apartOf_77 rfl (by decide) rfl ?_
    refine G.lload C 2 dX10_apartOf_79 rfl ?_
    obtain ⟨v_10, hv_9, h⟩ := bd_ex h
    refine G.callS (rest := []) C (s_X10_quarter  hv_9) ⟨tg_1742, tg_103, ok_X10_quarter, Nat.le_of_ble_eq_true rfl, Nat.le_of_ble_eq_true rfl⟩ tg_1740 tg_1741 rfl (Nat.le_of_ble_eq_true rfl) dX10_apartOf_81 ⟨Nat.le_refl 0, Nat.le_refl 0⟩ ?_
    refine G.lstore (L' := [(7, .long v_10), (9, .int x9), (11, .int v_8), (4, .int x4), (5, .long x5), (10, .int x10)]) C dX10_apartOf_84 rfl (by decide) rfl ?_
    obtain ⟨x10_11, ex10_11, h⟩ := ltv_ex h
    refine G.iinc (L' := [(10, .int x10_11), (7, .long v_10), (9, .int x9), (11, .int v_8), (4, .int x4), (5, .long x5)]) C 5 dX10_apartOf_86 rfl (ex10_11.trans rfl) (by decide) rfl ?_
    refine G.goto (tgt := 16) C dX10_apartOf_89 (by decide) ?_
    exact G.sub [4, 5, 1, 2, 0] rfl (hk_16 _ _ _ _ _  h)
  · have h := it_f h hc
    refine G.iload C 0 dX10_apartOf_70 rfl ?_
    refine G.goto (tgt := 77) C dX10_apartOf_72 (by decide) ?_
    refine G.istore (L' := [(9, .int v_8), (11, .int v_8), (7, .long s0), (4, .int x4), (5, .long x5), (10, .int x10)]) C dX10_apartOf_77 rfl (by decide) rfl ?_
    refine G.lload C 2 dX10_apartOf_79 rfl ?_
    obtain ⟨v_13, hv_12, h⟩ := bd_ex h
    refine G.callS (rest := []) C (s_X10_quarter  hv_12) ⟨tg_1742, tg_103, ok_X10_quarter, Nat.le_of_ble_eq_true rfl, Nat.le_of_ble_eq_true rfl⟩ tg_1740 tg_1741 rfl (Nat.le_of_ble_eq_true rfl) dX10_apartOf_81 ⟨Nat.le_refl 0, Nat.le_refl 0⟩ ?_
    refine G.lstore (L' := [(7, .long v_13), (9, .int v_8), (11, .int v_8), (4, .int x4), (5, .long x5), (10, .int x10)]) C dX10_apartOf_84 rfl (by decide) rfl ?_
    obtain ⟨x10_14, ex10_14, h⟩ := ltv_ex h
    refine G.iinc (L' := [(10, .int x10_14), (7, .long v_13), (9, .int v_8), (11, .int v_8), (4, .int x4), (5, .long x5)]) C 5 dX10_apartOf_86 rfl (ex10_14.trans rfl) (by decide) rfl ?_
    refine G.goto (tgt := 16) C dX10_apartOf_89 (by decide) ?_
    exact G.sub [4, 5, 1, 2, 0] rfl (hk_16 _ _ _ _ _  h)
def bb_X10_apartOf_29 (k_16 : Int32 → Int64 → Int64 → Int32 → Int32 → Option Int32) (x4 : Int32) (x5 : Int64) (x7 : Int64) (x9 : Int32) (x10 : Int32) (s0 : Int32) (s1 : Int32) : Option Int32 := if s1 ≤ s0 then (some x9) else (if x10 = (4 : Int32) then (bd (f_X10_mirrored x7) fun v_4 => bb_X10_apartOf_48 k_16 x4 x5 x9 x10 v_4) else (bb_X10_apartOf_48 k_16 x4 x5 x9 x10 x7))
set_option maxHeartbeats 4000000 in
set_option maxRecDepth 100000 in
theorem gb_X10_apartOf_29 {M : Mm}  {k_16 : Int32 → Int64 → Int64 → Int32 → Int32 → Option Int32} {x4 : Int32} {x5 : Int64} {x7 : Int64} {x9 : Int32} {x10 : Int32} {s0 : Int32} {s1 : Int32} {v : Int32} (C : Cx RX10 cX10_apartOf 12 p (rmD 3) s m args meth c E) (hr : meth.sig.returnType = (some .int)) (hk_16 : ∀ (x4 : Int32) (x5 : Int64) (x7 : Int64) (x9 : Int32) (x10 : Int32), k_16 x4 x5 x7 x9 x10 = some v → G p l e (rmD 3) s m args below meth c E 12 0 0 (QR below args s E 0 0 (some (.int v)) M) 16 [(4, .int x4), (5, .long x5), (7, .long x7), (9, .int x9), (10, .int x10)] [] M) (h : bb_X10_apartOf_29 k_16 x4 x5 x7 x9 x10 s0 s1 = some v) : G p l e (rmD 3) s m args below meth c E 12 0 0 (QR below args s E 0 0 (some (.int v)) M) 29 [(4, .int x4), (5, .long x5), (7, .long x7), (9, .int x9), (10, .int x10)] [.int s1, .int s0] M := by
  unfold bb_X10_apartOf_29 at h
  refine G.icmp_ge (tgt := 92) C dX10_apartOf_29 (by decide) (fun hc => ?_) (fun hc => ?_)
  · have h := it_t h hc
    refine G.iload C 3 dX10_apartOf_92 rfl ?_
    cases h
    exact G.iret C hr dX10_apartOf_94
  · have h := it_f h hc
    refine G.iload C 4 dX10_apartOf_32 rfl ?_
    refine G.iconst (v := (4 : Int32)) C dX10_apartOf_34 (by decide) ?_
    refine G.icmp_ne (tgt := 46) C dX10_apartOf_35 (by decide) (fun hc => ?_) (fun hc => ?_)
    · have h := it_f h hc
      refine G.lload C 2 dX10_apartOf_46 rfl ?_
      exact G.sub [0, 1, 3, 4] rfl (gb_X10_apartOf_48 C hr hk_16  h)
    · have h := it_t h hc
      refine G.lload C 2 dX10_apartOf_38 rfl ?_
      obtain ⟨v_4, hv_3, h⟩ := bd_ex h
      refine G.callS (rest := []) C (s_X10_mirrored  hv_3) ⟨tg_1739, tg_103, ok_X10_mirrored, Nat.le_of_ble_eq_true rfl, Nat.le_of_ble_eq_true rfl⟩ tg_1737 tg_1738 rfl (Nat.le_of_ble_eq_true rfl) dX10_apartOf_40 ⟨Nat.le_refl 0, Nat.le_refl 0⟩ ?_
      refine G.goto (tgt := 48) C dX10_apartOf_43 (by decide) ?_
      exact G.sub [0, 1, 3, 4] rfl (gb_X10_apartOf_48 C hr hk_16  h)
def bb_X10_apartOf_16 (k_16 : Int32 → Int64 → Int64 → Int32 → Int32 → Option Int32) (x4 : Int32) (x5 : Int64) (x7 : Int64) (x9 : Int32) (x10 : Int32) : Option Int32 := if x4 = 0 then (bb_X10_apartOf_29 k_16 x4 x5 x7 x9 x10 x10 (4 : Int32)) else (bb_X10_apartOf_29 k_16 x4 x5 x7 x9 x10 x10 (8 : Int32))
set_option maxHeartbeats 4000000 in
set_option maxRecDepth 100000 in
theorem gb_X10_apartOf_16 {M : Mm}  {k_16 : Int32 → Int64 → Int64 → Int32 → Int32 → Option Int32} {x4 : Int32} {x5 : Int64} {x7 : Int64} {x9 : Int32} {x10 : Int32} {v : Int32} (C : Cx RX10 cX10_apartOf 12 p (rmD 3) s m args meth c E) (hr : meth.sig.returnType = (some .int)) (hk_16 : ∀ (x4 : Int32) (x5 : Int64) (x7 : Int64) (x9 : Int32) (x10 : Int32), k_16 x4 x5 x7 x9 x10 = some v → G p l e (rmD 3) s m args below meth c E 12 0 0 (QR below args s E 0 0 (some (.int v)) M) 16 [(4, .int x4), (5, .long x5), (7, .long x7), (9, .int x9), (10, .int x10)] [] M) (h : bb_X10_apartOf_16 k_16 x4 x5 x7 x9 x10 = some v) : G p l e (rmD 3) s m args below meth c E 12 0 0 (QR below args s E 0 0 (some (.int v)) M) 16 [(4, .int x4), (5, .long x5), (7, .long x7), (9, .int x9), (10, .int x10)] [] M := by
  unfold bb_X10_apartOf_16 at h
  refine G.iload C 4 dX10_apartOf_16 rfl ?_
  refine G.iload C 0 dX10_apartOf_18 rfl ?_
  refine G.if_eq (tgt := 28) C dX10_apartOf_20 (by decide) (fun hc => ?_) (fun hc => ?_)
  · have h := it_t h hc
    refine G.iconst (v := (4 : Int32)) C dX10_apartOf_28 (by decide) ?_
    exact G.sub [0, 1, 2, 3, 4] rfl (gb_X10_apartOf_29 C hr hk_16  h)
  · have h := it_f h hc
    refine G.bipush (v := (8 : Int32)) C dX10_apartOf_23 (by decide) ?_
    refine G.goto (tgt := 29) C dX10_apartOf_25 (by decide) ?_
    exact G.sub [0, 1, 2, 3, 4] rfl (gb_X10_apartOf_29 C hr hk_16  h)
def b_X10_apartOf_16 : Nat → Int32 → Int64 → Int64 → Int32 → Int32 → Option Int32
  | 0, _, _, _, _, _ => none
  | n + 1, x4, x5, x7, x9, x10 => bb_X10_apartOf_16 (b_X10_apartOf_16 n) x4 x5 x7 x9 x10
set_option maxHeartbeats 4000000 in
theorem g_X10_apartOf_16 {M : Mm}  {n : Nat} {x4 : Int32} {x5 : Int64} {x7 : Int64} {x9 : Int32} {x10 : Int32} {v : Int32} (C : Cx RX10 cX10_apartOf 12 p (rmD 3) s m args meth c E) (hr : meth.sig.returnType = (some .int)) (h : b_X10_apartOf_16 n x4 x5 x7 x9 x10 = some v) : G p l e (rmD 3) s m args below meth c E 12 0 0 (QR below args s E 0 0 (some (.int v)) M) 16 [(4, .int x4), (5, .long x5), (7, .long x7), (9, .int x9), (10, .int x10)] [] M := by
  induction n generalizing x4 x5 x7 x9 x10 with
  | zero => cases h
  | succ n ih => exact gb_X10_apartOf_16 C hr (fun _ _ _ _ _ => ih)  h
def bb_X10_apartOf_0 (x0 : Int64) (x2 : Int64) (x4 : Int32) : Option Int32 := bd (f_X10_shapeOf x2) fun v_2 => b_X10_apartOf_16 FU x4 v_2 x0 (64 : Int32) (0 : Int32)
set_option maxHeartbeats 4000000 in
set_option maxRecDepth 100000 in
theorem gb_X10_apartOf_0 {M : Mm}  {x0 : Int64} {x2 : Int64} {x4 : Int32} {v : Int32} (C : Cx RX10 cX10_apartOf 12 p (rmD 3) s m args meth c E) (hr : meth.sig.returnType = (some .int)) (h : bb_X10_apartOf_0 x0 x2 x4 = some v) : G p l e (rmD 3) s m args below meth c E 12 0 0 (QR below args s E 0 0 (some (.int v)) M) 0 [(0, .long x0), (2, .long x2), (4, .int x4)] [] M := by
  unfold bb_X10_apartOf_0 at h
  refine G.lload_n C 1 dX10_apartOf_0 rfl rfl ?_
  obtain ⟨v_2, hv_1, h⟩ := bd_ex h
  refine G.callS (rest := []) C (s_X10_shapeOf  hv_1) ⟨tg_1729, tg_103, ok_X10_shapeOf, Nat.le_of_ble_eq_true rfl, Nat.le_of_ble_eq_true rfl⟩ tg_1727 tg_1728 rfl (Nat.le_of_ble_eq_true rfl) dX10_apartOf_1 ⟨Nat.le_refl 0, Nat.le_refl 0⟩ ?_
  refine G.lstore (L' := [(5, .long v_2), (0, .long x0), (2, .long x2), (4, .int x4)]) C dX10_apartOf_4 rfl (by decide) rfl ?_
  refine G.lload_n C 1 dX10_apartOf_6 rfl rfl ?_
  refine G.lstore (L' := [(7, .long x0), (5, .long v_2), (0, .long x0), (2, .long x2), (4, .int x4)]) C dX10_apartOf_7 rfl (by decide) rfl ?_
  refine G.bipush (v := (64 : Int32)) C dX10_apartOf_9 (by decide) ?_
  refine G.istore (L' := [(9, .int (64 : Int32)), (7, .long x0), (5, .long v_2), (0, .long x0), (2, .long x2), (4, .int x4)]) C dX10_apartOf_11 rfl (by decide) rfl ?_
  refine G.iconst (v := (0 : Int32)) C dX10_apartOf_13 (by decide) ?_
  refine G.istore (L' := [(10, .int (0 : Int32)), (9, .int (64 : Int32)), (7, .long x0), (5, .long v_2), (0, .long x0), (2, .long x2), (4, .int x4)]) C dX10_apartOf_14 rfl (by decide) rfl ?_
  exact G.sub [6, 3, 2, 1, 0] rfl (g_X10_apartOf_16 C hr  h)
def f_X10_apartOf (x0 : Int64) (x2 : Int64) (x4 : Int32) : Option Int32 := bb_X10_apartOf_0 x0 x2 x4
theorem s_X10_apartOf {l : Launch} {E : Ev} {x0 : Int64} {x2 : Int64} {x4 : Int32} {M : Mm} {v : Int32} (h : f_X10_apartOf x0 x2 x4 = some v) : MetA l yX10_apartOf cX10_apartOf 12 (some .int) 3 E [.long x0, .long x2, .int x4] M (some (.int v)) M := by
  refine MetA.of (by decide +kernel) (Nat.le_of_ble_eq_true rfl) ?_
  intro p e s m below meth c C hr hnm
  exact G.sub [0, 1, 2] rfl (gb_X10_apartOf_0 C hr  h)
def bb_X10_apart_67_27 (x1 : Int32) (x2 : Int32) (x3 : Int32) (s1 : Int32) (M : Mm) : Option (Int32 × Mm) := bd2 (f_X10_bad_67 s1 (1 : Int32) M) fun v_8 M_7 => if v_8 = 0 then (gd (inb x1 16) (gd (inb x2 16) (bd (f_X10_apartOf (M_7.2 91 (ix x1)) (M_7.2 91 (ix x2)) x3) fun v_12 => some (v_12, M_7)))) else (some ((0 : Int32), M_7))
set_option maxHeartbeats 4000000 in
set_option maxRecDepth 100000 in
theorem gb_X10_apart_67_27  {x1 : Int32} {x2 : Int32} {x3 : Int32} {s1 : Int32} {M : Mm} {v : Int32} {M' : Mm} (hE : Has shM (eH E)) (C : Cx RX10 cX10_apart 4 p (rmD 4) s m args meth c E) (hr : meth.sig.returnType = (some .int)) (h : bb_X10_apart_67_27 x1 x2 x3 s1 M = some (v, M')) : G p l e (rmD 4) s m args below meth c E 4 0 0 (QR below args s E 0 0 (some (.int v)) M') 27 [(0, .ref (eA E 67)), (1, .int x1), (2, .int x2), (3, .int x3)] [.int s1, .ref (eA E 67)] M := by
  unfold bb_X10_apart_67_27 at h
  refine G.iconst (v := (1 : Int32)) C dX10_apart_27 (by decide) ?_
  obtain ⟨v_8, M_7, hv_6, h⟩ := bd2_ex h
  refine G.callV (rest := []) C (s_X10_bad_67 hE  hv_6) ⟨tg_1600, tg_103, ok_X10_bad, Nat.le_of_ble_eq_true rfl, Nat.le_of_ble_eq_true rfl⟩ tg_1597 tg_1599 tg_46 (sm_67 hE) rfl rfl (Nat.le_of_ble_eq_true rfl) dX10_apart_28 ⟨Nat.le_refl 0, Nat.le_refl 0⟩ ?_
  refine G.if_eq (tgt := 36) C dX10_apart_31 (by decide) (fun hc => ?_) (fun hc => ?_)
  · have h := it_t h hc
    refine G.aload_n C 0 dX10_apart_36 rfl rfl ?_
    refine G.getR (k := 20) C k_X10 (sm_67 hE) rfl (by decide) tg_1451 dX10_apart_37 ?_
    refine G.iload_n C 1 dX10_apart_40 rfl rfl ?_
    obtain ⟨hg_9, h⟩ := gd_ex h
    refine G.aJ (j := ix x1) C (sm_91 hE) hg_9 rfl dX10_apart_41 ?_
    refine G.aload_n C 0 dX10_apart_42 rfl rfl ?_
    refine G.getR (k := 20) C k_X10 (sm_67 hE) rfl (by decide) tg_1451 dX10_apart_43 ?_
    refine G.iload_n C 2 dX10_apart_46 rfl rfl ?_
    obtain ⟨hg_10, h⟩ := gd_ex h
    refine G.aJ (j := ix x2) C (sm_91 hE) hg_10 rfl dX10_apart_47 ?_
    refine G.iload_n C 3 dX10_apart_48 rfl rfl ?_
    obtain ⟨v_12, hv_11, h⟩ := bd_ex h
    refine G.callS (rest := []) C (s_X10_apartOf  hv_11) ⟨tg_1736, tg_103, ok_X10_apartOf, Nat.le_of_ble_eq_true rfl, Nat.le_of_ble_eq_true rfl⟩ tg_1734 tg_1735 rfl (Nat.le_of_ble_eq_true rfl) dX10_apart_49 ⟨Nat.le_refl 0, Nat.le_refl 0⟩ ?_
    cases h
    exact G.iret C hr dX10_apart_52
  · have h := it_f h hc
    refine G.iconst (v := (0 : Int32)) C dX10_apart_34 (by decide) ?_
    cases h
    exact G.iret C hr dX10_apart_35
def bb_X10_apart_67_22 (x1 : Int32) (x2 : Int32) (x3 : Int32) (M : Mm) : Option (Int32 × Mm) := bb_X10_apart_67_27 x1 x2 x3 (1 : Int32) M
set_option maxHeartbeats 4000000 in
set_option maxRecDepth 100000 in
theorem gb_X10_apart_67_22  {x1 : Int32} {x2 : Int32} {x3 : Int32} {M : Mm} {v : Int32} {M' : Mm} (hE : Has shM (eH E)) (C : Cx RX10 cX10_apart 4 p (rmD 4) s m args meth c E) (hr : meth.sig.returnType = (some .int)) (h : bb_X10_apart_67_22 x1 x2 x3 M = some (v, M')) : G p l e (rmD 4) s m args below meth c E 4 0 0 (QR below args s E 0 0 (some (.int v)) M') 22 [(0, .ref (eA E 67)), (1, .int x1), (2, .int x2), (3, .int x3)] [.ref (eA E 67)] M := by
  unfold bb_X10_apart_67_22 at h
  refine G.iconst (v := (1 : Int32)) C dX10_apart_22 (by decide) ?_
  refine G.goto (tgt := 27) C dX10_apart_23 (by decide) ?_
  exact G.sub [0, 1, 2, 3] rfl (gb_X10_apart_67_27 hE C hr  h)
def bb_X10_apart_67_0 (x1 : Int32) (x2 : Int32) (x3 : Int32) (M : Mm) : Option (Int32 × Mm) := ltv (wI M 67 0 (0 : Int32)) fun M_1 => bd (f_X10_isHollow_67 x1 M_1) fun v_3 => if v_3 = 0 then (bb_X10_apart_67_22 x1 x2 x3 M_1) else (bd (f_X10_isHollow_67 x2 M_1) fun v_5 => if v_5 = 0 then (bb_X10_apart_67_22 x1 x2 x3 M_1) else (bb_X10_apart_67_27 x1 x2 x3 (0 : Int32) M_1))
set_option maxHeartbeats 4000000 in
set_option maxRecDepth 100000 in
theorem gb_X10_apart_67_0  {x1 : Int32} {x2 : Int32} {x3 : Int32} {M : Mm} {v : Int32} {M' : Mm} (hE : Has shM (eH E)) (C : Cx RX10 cX10_apart 4 p (rmD 4) s m args meth c E) (hr : meth.sig.returnType = (some .int)) (h : bb_X10_apart_67_0 x1 x2 x3 M = some (v, M')) : G p l e (rmD 4) s m args below meth c E 4 0 0 (QR below args s E 0 0 (some (.int v)) M') 0 [(0, .ref (eA E 67)), (1, .int x1), (2, .int x2), (3, .int x3)] [] M := by
  unfold bb_X10_apart_67_0 at h
  refine G.aload_n C 0 dX10_apart_0 rfl rfl ?_
  refine G.iconst (v := (0 : Int32)) C dX10_apart_1 (by decide) ?_
  obtain ⟨M_1, eM_1, h⟩ := ltv_ex h
  refine G.putI (k := 0) C k_X10 (sm_67 hE) rfl (by decide) tg_1431 rfl rfl dX10_apart_2 eM_1 ?_
  refine G.aload_n C 0 dX10_apart_5 rfl rfl ?_
  refine G.aload_n C 0 dX10_apart_6 rfl rfl ?_
  refine G.iload_n C 1 dX10_apart_7 rfl rfl ?_
  obtain ⟨v_3, hv_2, h⟩ := bd_ex h
  refine G.callV (rest := [.ref (eA E 67)]) C (s_X10_isHollow_67 hE  hv_2) ⟨tg_1722, tg_103, ok_X10_isHollow, Nat.le_of_ble_eq_true rfl, Nat.le_of_ble_eq_true rfl⟩ tg_1719 tg_1721 tg_65 (sm_67 hE) rfl rfl (Nat.le_of_ble_eq_true rfl) dX10_apart_8 ⟨Nat.le_refl 0, Nat.le_refl 0⟩ ?_
  refine G.if_eq (tgt := 22) C dX10_apart_11 (by decide) (fun hc => ?_) (fun hc => ?_)
  · have h := it_t h hc
    exact G.sub [0, 1, 2, 3] rfl (gb_X10_apart_67_22 hE C hr  h)
  · have h := it_f h hc
    refine G.aload_n C 0 dX10_apart_14 rfl rfl ?_
    refine G.iload_n C 2 dX10_apart_15 rfl rfl ?_
    obtain ⟨v_5, hv_4, h⟩ := bd_ex h
    refine G.callV (rest := [.ref (eA E 67)]) C (s_X10_isHollow_67 hE  hv_4) ⟨tg_1722, tg_103, ok_X10_isHollow, Nat.le_of_ble_eq_true rfl, Nat.le_of_ble_eq_true rfl⟩ tg_1719 tg_1721 tg_65 (sm_67 hE) rfl rfl (Nat.le_of_ble_eq_true rfl) dX10_apart_16 ⟨Nat.le_refl 0, Nat.le_refl 0⟩ ?_
    refine G.if_ne (tgt := 26) C dX10_apart_19 (by decide) (fun hc => ?_) (fun hc => ?_)
    · have h := it_f h hc
      refine G.iconst (v := (0 : Int32)) C dX10_apart_26 (by decide) ?_
      exact G.sub [0, 1, 2, 3] rfl (gb_X10_apart_67_27 hE C hr  h)
    · have h := it_t h hc
      exact G.sub [0, 1, 2, 3] rfl (gb_X10_apart_67_22 hE C hr  h)
def f_X10_apart_67 (x1 : Int32) (x2 : Int32) (x3 : Int32) (M : Mm) : Option (Int32 × Mm) := bb_X10_apart_67_0 x1 x2 x3 M
theorem s_X10_apart_67 {l : Launch} {E : Ev} {x1 : Int32} {x2 : Int32} {x3 : Int32} {M : Mm} {v : Int32} {M' : Mm} (hE : Has shM (eH E)) (h : f_X10_apart_67 x1 x2 x3 M = some (v, M')) : MetA l yX10_apart cX10_apart 4 (some .int) 4 E [.ref (eA E 67), .int x1, .int x2, .int x3] M (some (.int v)) M' := by
  refine MetA.of (by decide +kernel) (Nat.le_of_ble_eq_true rfl) ?_
  intro p e s m below meth c C hr hnm
  exact G.sub [0, 1, 2, 3] rfl (gb_X10_apart_67_0 hE C hr  h)
def bb_X10_findSet_67_22 (k_2 : Int32 → Int32 → Int32 → Mm → Option (Int32 × Mm)) (k_22 : Int32 → Int32 → Int32 → Int32 → Mm → Option (Int32 × Mm)) (x1 : Int32) (x2 : Int32) (x3 : Int32) (x4 : Int32) (M : Mm) : Option (Int32 × Mm) := if (M.1 67 19) ≤ x4 then (ltv (x3 + (1 : Int32)) fun x3_9 => k_2 x1 x2 x3_9 M) else (gd (inb x4 16) (gd (inb x3 16) (bd (f_X10_apartOf (M.2 91 (ix x4)) (M.2 91 (ix x3)) x2) fun v_13 => if x1 < v_13 then (ltv (x4 + (1 : Int32)) fun x4_14 => k_22 x1 x2 x3 x4_14 M) else (gd (inb x3 16) (gd (inb x3 16) (ltv (wI M 108 (ix x3) ((M.1 108 (ix x3)) ||| (shI (1 : Int32) x4))) fun M_17 => ltv (x4 + (1 : Int32)) fun x4_18 => k_22 x1 x2 x3 x4_18 M_17))))))
set_option maxHeartbeats 4000000 in
set_option maxRecDepth 100000 in
theorem gb_X10_findSet_67_22  {k_2 : Int32 → Int32 → Int32 → Mm → Option (Int32 × Mm)} {k_22 : Int32 → Int32 → Int32 → Int32 → Mm → Option (Int32 × Mm)} {x1 : Int32} {x2 : Int32} {x3 : Int32} {x4 : Int32} {M : Mm} {v : Int32} {M' : Mm} (hE : Has shM (eH E)) (C : Cx RX10 cX10_findSet 7 p (rmD 4) s m args meth c E) (hr : meth.sig.returnType = (some .int)) (hk_2 : ∀ (x1 : Int32) (x2 : Int32) (x3 : Int32) (M : Mm), k_2 x1 x2 x3 M = some (v, M') → G p l e (rmD 4) s m args below meth c E 7 0 0 (QR below args s E 0 0 (some (.int v)) M') 2 [(0, .ref (eA E 67)), (1, .int x1), (2, .int x2), (3, .int x3)] [] M) (hk_22 : ∀ (x1 : Int32) (x2 : Int32) (x3 : Int32) (x4 : Int32) (M : Mm), k_22 x1 x2 x3 x4 M = some (v, M') → G p l e (rmD 4) s m args below meth c E 7 0 0 (QR below args s E 0 0 (some (.int v)) M') 22 [(0, .ref (eA E 67)), (1, .int x1), (2, .int x2), (3, .int x3), (4, .int x4)] [] M) (h : bb_X10_findSet_67_22 k_2 k_22 x1 x2 x3 x4 M = some (v, M')) : G p l e (rmD 4) s m args below meth c E 7 0 0 (QR below args s E 0 0 (some (.int v)) M') 22 [(0, .ref (eA E 67)), (1, .int x1), (2, .int x2), (3, .int x3), (4, .int x4)] [] M := by
  unfold bb_X10_findSet_67_22 at h
  refine G.iload C 4 dX10_findSet_22 rfl ?_
  refine G.aload_n C 0 dX10_findSet_24 rfl rfl ?_
  refine G.getI (k := 19) C k_X10 (sm_67 hE) rfl (by decide) tg_1450 dX10_findSet_25 ?_
  refine G.icmp_ge (tgt := 71) C dX10_findSet_28 (by decide) (fun hc => ?_) (fun hc => ?_)
  · have h := it_t h hc
    obtain ⟨x3_9, ex3_9, h⟩ := ltv_ex h
    refine G.iinc (L' := [(3, .int x3_9), (0, .ref (eA E 67)), (1, .int x1), (2, .int x2), (4, .int x4)]) C 3 dX10_findSet_71 rfl (ex3_9.trans rfl) (by decide) rfl ?_
    refine G.goto (tgt := 2) C dX10_findSet_74 (by decide) ?_
    exact G.sub [1, 2, 3, 0] rfl (hk_2 _ _ _ _  h)
  · have h := it_f h hc
    refine G.aload_n C 0 dX10_findSet_31 rfl rfl ?_
    refine G.getR (k := 20) C k_X10 (sm_67 hE) rfl (by decide) tg_1451 dX10_findSet_32 ?_
    refine G.iload C 4 dX10_findSet_35 rfl ?_
    obtain ⟨hg_10, h⟩ := gd_ex h
    refine G.aJ (j := ix x4) C (sm_91 hE) hg_10 rfl dX10_findSet_37 ?_
    refine G.aload_n C 0 dX10_findSet_38 rfl rfl ?_
    refine G.getR (k := 20) C k_X10 (sm_67 hE) rfl (by decide) tg_1451 dX10_findSet_39 ?_
    refine G.iload_n C 3 dX10_findSet_42 rfl rfl ?_
    obtain ⟨hg_11, h⟩ := gd_ex h
    refine G.aJ (j := ix x3) C (sm_91 hE) hg_11 rfl dX10_findSet_43 ?_
    refine G.iload_n C 2 dX10_findSet_44 rfl rfl ?_
    obtain ⟨v_13, hv_12, h⟩ := bd_ex h
    refine G.callS (rest := []) C (s_X10_apartOf  hv_12) ⟨tg_1736, tg_103, ok_X10_apartOf, Nat.le_of_ble_eq_true rfl, Nat.le_of_ble_eq_true rfl⟩ tg_1734 tg_1735 rfl (Nat.le_of_ble_eq_true rfl) dX10_findSet_45 ⟨Nat.le_refl 0, Nat.le_refl 0⟩ ?_
    refine G.iload_n C 1 dX10_findSet_48 rfl rfl ?_
    refine G.icmp_gt (tgt := 65) C dX10_findSet_49 (by decide) (fun hc => ?_) (fun hc => ?_)
    · have h := it_t h hc
      obtain ⟨x4_14, ex4_14, h⟩ := ltv_ex h
      refine G.iinc (L' := [(4, .int x4_14), (0, .ref (eA E 67)), (1, .int x1), (2, .int x2), (3, .int x3)]) C 4 dX10_findSet_65 rfl (ex4_14.trans rfl) (by decide) rfl ?_
      refine G.goto (tgt := 22) C dX10_findSet_68 (by decide) ?_
      exact G.sub [1, 2, 3, 4, 0] rfl (hk_22 _ _ _ _ _  h)
    · have h := it_f h hc
      refine G.aload_n C 0 dX10_findSet_52 rfl rfl ?_
      refine G.getR (k := 46) C k_X10 (sm_67 hE) rfl (by decide) tg_1477 dX10_findSet_53 ?_
      refine G.iload_n C 3 dX10_findSet_56 rfl rfl ?_
      refine G.dup2_11 C dX10_findSet_57 rfl rfl ?_
      obtain ⟨hg_15, h⟩ := gd_ex h
      refine G.aI (j := ix x3) C (sm_108 hE) hg_15 rfl dX10_findSet_58 ?_
      refine G.iconst (v := (1 : Int32)) C dX10_findSet_59 (by decide) ?_
      refine G.iload C 4 dX10_findSet_60 rfl ?_
      refine G.isl C dX10_findSet_62 ?_
      refine G.ior C dX10_findSet_63 ?_
      obtain ⟨hg_16, h⟩ := gd_ex h
      obtain ⟨M_17, eM_17, h⟩ := ltv_ex h
      refine G.sI (j := (ix x3)) C (sm_108 hE) hg_16 rfl dX10_findSet_64 eM_17 ?_
      obtain ⟨x4_18, ex4_18, h⟩ := ltv_ex h
      refine G.iinc (L' := [(4, .int x4_18), (0, .ref (eA E 67)), (1, .int x1), (2, .int x2), (3, .int x3)]) C 4 dX10_findSet_65 rfl (ex4_18.trans rfl) (by decide) rfl ?_
      refine G.goto (tgt := 22) C dX10_findSet_68 (by decide) ?_
      exact G.sub [1, 2, 3, 4, 0] rfl (hk_22 _ _ _ _ _  h)
def b_X10_findSet_67_22 (k_2 : Int32 → Int32 → Int32 → Mm → Option (Int32 × Mm)) : Nat → Int32 → Int32 → Int32 → Int32 → Mm → Option (Int32 × Mm)
  | 0, _, _, _, _, _ => none
  | n + 1, x1, x2, x3, x4, M => bb_X10_findSet_67_22 k_2 (b_X10_findSet_67_22 k_2 n) x1 x2 x3 x4 M
set_option maxHeartbeats 4000000 in
theorem g_X10_findSet_67_22  {k_2 : Int32 → Int32 → Int32 → Mm → Option (Int32 × Mm)} {n : Nat} {x1 : Int32} {x2 : Int32} {x3 : Int32} {x4 : Int32} {M : Mm} {v : Int32} {M' : Mm} (hE : Has shM (eH E)) (C : Cx RX10 cX10_findSet 7 p (rmD 4) s m args meth c E) (hr : meth.sig.returnType = (some .int)) (hk_2 : ∀ (x1 : Int32) (x2 : Int32) (x3 : Int32) (M : Mm), k_2 x1 x2 x3 M = some (v, M') → G p l e (rmD 4) s m args below meth c E 7 0 0 (QR below args s E 0 0 (some (.int v)) M') 2 [(0, .ref (eA E 67)), (1, .int x1), (2, .int x2), (3, .int x3)] [] M) (h : b_X10_findSet_67_22 k_2 n x1 x2 x3 x4 M = some (v, M')) : G p l e (rmD 4) s m args below meth c E 7 0 0 (QR below args s E 0 0 (some (.int v)) M') 22 [(0, .ref (eA E 67)), (1, .int x1), (2, .int x2), (3, .int x3), (4, .int x4)] [] M := by
  induction n generalizing x1 x2 x3 x4 M with
  | zero => cases h
  | succ n ih => exact gb_X10_findSet_67_22 hE C hr hk_2 (fun _ _ _ _ _ => ih)  h
def bb_X10_findSet_67_123 (k_89 : Int32 → Int32 → Mm → Option (Int32 × Mm)) (k_123 : Int32 → Int32 → Int32 → Int32 → Mm → Option (Int32 × Mm)) (x3 : Int32) (x4 : Int32) (x5 : Int32) (x6 : Int32) (M : Mm) : Option (Int32 × Mm) := if (M.1 67 19) ≤ x6 then (if x5 = 0 then (ltv (x4 + (1 : Int32)) fun x4_19 => k_89 x3 x4_19 M) else (ltv (x4 + (1 : Int32)) fun x4_20 => k_89 x4 x4_20 M)) else (if x5 = 0 then (if x5 = 0 then (ltv (x4 + (1 : Int32)) fun x4_21 => k_89 x3 x4_21 M) else (ltv (x4 + (1 : Int32)) fun x4_22 => k_89 x4 x4_22 M)) else (gd (inb x6 16) (if ((M.1 108 (ix x6)) &&& x4) = 0 then (ltv (x6 + (1 : Int32)) fun x6_24 => k_123 x3 x4 (0 : Int32) x6_24 M) else (ltv (x6 + (1 : Int32)) fun x6_25 => k_123 x3 x4 (1 : Int32) x6_25 M))))
set_option maxHeartbeats 4000000 in
set_option maxRecDepth 100000 in
theorem gb_X10_findSet_67_123  {k_89 : Int32 → Int32 → Mm → Option (Int32 × Mm)} {k_123 : Int32 → Int32 → Int32 → Int32 → Mm → Option (Int32 × Mm)} {x3 : Int32} {x4 : Int32} {x5 : Int32} {x6 : Int32} {M : Mm} {v : Int32} {M' : Mm} (hE : Has shM (eH E)) (C : Cx RX10 cX10_findSet 7 p (rmD 4) s m args meth c E) (hr : meth.sig.returnType = (some .int)) (hk_89 : ∀ (x3 : Int32) (x4 : Int32) (M : Mm), k_89 x3 x4 M = some (v, M') → G p l e (rmD 4) s m args below meth c E 7 0 0 (QR below args s E 0 0 (some (.int v)) M') 89 [(0, .ref (eA E 67)), (3, .int x3), (4, .int x4)] [] M) (hk_123 : ∀ (x3 : Int32) (x4 : Int32) (x5 : Int32) (x6 : Int32) (M : Mm), k_123 x3 x4 x5 x6 M = some (v, M') → G p l e (rmD 4) s m args below meth c E 7 0 0 (QR below args s E 0 0 (some (.int v)) M') 123 [(0, .ref (eA E 67)), (3, .int x3), (4, .int x4), (5, .int x5), (6, .int x6)] [] M) (h : bb_X10_findSet_67_123 k_89 k_123 x3 x4 x5 x6 M = some (v, M')) : G p l e (rmD 4) s m args below meth c E 7 0 0 (QR below args s E 0 0 (some (.int v)) M') 123 [(0, .ref (eA E 67)), (3, .int x3), (4, .int x4), (5, .int x5), (6, .int x6)] [] M := by
  unfold bb_X10_findSet_67_123 at h
  refine G.iload C 4 dX10_findSet_123 rfl ?_
  refine G.aload_n C 0 dX10_findSet_125 rfl rfl ?_
  refine G.getI (k := 19) C k_X10 (sm_67 hE) rfl (by decide) tg_1450 dX10_findSet_126 ?_
  refine G.icmp_ge (tgt := 163) C dX10_findSet_129 (by decide) (fun hc => ?_) (fun hc => ?_)
  · have h := it_t h hc
    refine G.iload C 3 dX10_findSet_163 rfl ?_
    refine G.if_eq (tgt := 171) C dX10_findSet_165 (by decide) (fun hc => ?_) (fun hc => ?_)
    · have h := it_t h hc
      obtain ⟨x4_19, ex4_19, h⟩ := ltv_ex h
      refine G.iinc (L' := [(4, .int x4_19), (0, .ref (eA E 67)), (3, .int x3), (5, .int x5), (6, .int x6)]) C 2 dX10_findSet_171 rfl (ex4_19.trans rfl) (by decide) rfl ?_
      refine G.goto (tgt := 89) C dX10_findSet_174 (by decide) ?_
      exact G.sub [1, 2, 0] rfl (hk_89 _ _ _  h)
    · have h := it_f h hc
      refine G.iload C 2 dX10_findSet_168 rfl ?_
      refine G.istore_n (L' := [(3, .int x4), (0, .ref (eA E 67)), (4, .int x4), (5, .int x5), (6, .int x6)]) C dX10_findSet_170 rfl rfl (by decide) rfl ?_
      obtain ⟨x4_20, ex4_20, h⟩ := ltv_ex h
      refine G.iinc (L' := [(4, .int x4_20), (3, .int x4), (0, .ref (eA E 67)), (5, .int x5), (6, .int x6)]) C 2 dX10_findSet_171 rfl (ex4_20.trans rfl) (by decide) rfl ?_
      refine G.goto (tgt := 89) C dX10_findSet_174 (by decide) ?_
      exact G.sub [2, 1, 0] rfl (hk_89 _ _ _  h)
  · have h := it_f h hc
    refine G.iload C 3 dX10_findSet_132 rfl ?_
    refine G.if_eq (tgt := 163) C dX10_findSet_134 (by decide) (fun hc => ?_) (fun hc => ?_)
    · have h := it_t h hc
      refine G.iload C 3 dX10_findSet_163 rfl ?_
      refine G.if_eq (tgt := 171) C dX10_findSet_165 (by decide) (fun hc => ?_) (fun hc => ?_)
      · have h := it_t h hc
        obtain ⟨x4_21, ex4_21, h⟩ := ltv_ex h
        refine G.iinc (L' := [(4, .int x4_21), (0, .ref (eA E 67)), (3, .int x3), (5, .int x5), (6, .int x6)]) C 2 dX10_findSet_171 rfl (ex4_21.trans rfl) (by decide) rfl ?_
        refine G.goto (tgt := 89) C dX10_findSet_174 (by decide) ?_
        exact G.sub [1, 2, 0] rfl (hk_89 _ _ _  h)
      · have h := it_f h hc
        refine G.iload C 2 dX10_findSet_168 rfl ?_
        refine G.istore_n (L' := [(3, .int x4), (0, .ref (eA E 67)), (4, .int x4), (5, .int x5), (6, .int x6)]) C dX10_findSet_170 rfl rfl (by decide) rfl ?_
        obtain ⟨x4_22, ex4_22, h⟩ := ltv_ex h
        refine G.iinc (L' := [(4, .int x4_22), (3, .int x4), (0, .ref (eA E 67)), (5, .int x5), (6, .int x6)]) C 2 dX10_findSet_171 rfl (ex4_22.trans rfl) (by decide) rfl ?_
        refine G.goto (tgt := 89) C dX10_findSet_174 (by decide) ?_
        exact G.sub [2, 1, 0] rfl (hk_89 _ _ _  h)
    · have h := it_f h hc
      refine G.aload_n C 0 dX10_findSet_137 rfl rfl ?_
      refine G.getR (k := 46) C k_X10 (sm_67 hE) rfl (by decide) tg_1477 dX10_findSet_138 ?_
      refine G.iload C 4 dX10_findSet_141 rfl ?_
      obtain ⟨hg_23, h⟩ := gd_ex h
      refine G.aI (j := ix x6) C (sm_108 hE) hg_23 rfl dX10_findSet_143 ?_
      refine G.iload C 2 dX10_findSet_144 rfl ?_
      refine G.iand C dX10_findSet_146 ?_
      refine G.if_eq (tgt := 154) C dX10_findSet_147 (by decide) (fun hc => ?_) (fun hc => ?_)
      · have h := it_t h hc
        refine G.iconst (v := (0 : Int32)) C dX10_findSet_154 (by decide) ?_
        refine G.istore (L' := [(5, .int (0 : Int32)), (0, .ref (eA E 67)), (3, .int x3), (4, .int x4), (6, .int x6)]) C dX10_findSet_155 rfl (by decide) rfl ?_
        obtain ⟨x6_24, ex6_24, h⟩ := ltv_ex h
        refine G.iinc (L' := [(6, .int x6_24), (5, .int (0 : Int32)), (0, .ref (eA E 67)), (3, .int x3), (4, .int x4)]) C 4 dX10_findSet_157 rfl (ex6_24.trans rfl) (by decide) rfl ?_
        refine G.goto (tgt := 123) C dX10_findSet_160 (by decide) ?_
        exact G.sub [2, 3, 4, 1, 0] rfl (hk_123 _ _ _ _ _  h)
      · have h := it_f h hc
        refine G.iconst (v := (1 : Int32)) C dX10_findSet_150 (by decide) ?_
        refine G.goto (tgt := 155) C dX10_findSet_151 (by decide) ?_
        refine G.istore (L' := [(5, .int (1 : Int32)), (0, .ref (eA E 67)), (3, .int x3), (4, .int x4), (6, .int x6)]) C dX10_findSet_155 rfl (by decide) rfl ?_
        obtain ⟨x6_25, ex6_25, h⟩ := ltv_ex h
        refine G.iinc (L' := [(6, .int x6_25), (5, .int (1 : Int32)), (0, .ref (eA E 67)), (3, .int x3), (4, .int x4)]) C 4 dX10_findSet_157 rfl (ex6_25.trans rfl) (by decide) rfl ?_
        refine G.goto (tgt := 123) C dX10_findSet_160 (by decide) ?_
        exact G.sub [2, 3, 4, 1, 0] rfl (hk_123 _ _ _ _ _  h)
def b_X10_findSet_67_123 (k_89 : Int32 → Int32 → Mm → Option (Int32 × Mm)) : Nat → Int32 → Int32 → Int32 → Int32 → Mm → Option (Int32 × Mm)
  | 0, _, _, _, _, _ => none
  | n + 1, x3, x4, x5, x6, M => bb_X10_findSet_67_123 k_89 (b_X10_findSet_67_123 k_89 n) x3 x4 x5 x6 M
set_option maxHeartbeats 4000000 in
theorem g_X10_findSet_67_123  {k_89 : Int32 → Int32 → Mm → Option (Int32 × Mm)} {n : Nat} {x3 : Int32} {x4 : Int32} {x5 : Int32} {x6 : Int32} {M : Mm} {v : Int32} {M' : Mm} (hE : Has shM (eH E)) (C : Cx RX10 cX10_findSet 7 p (rmD 4) s m args meth c E) (hr : meth.sig.returnType = (some .int)) (hk_89 : ∀ (x3 : Int32) (x4 : Int32) (M : Mm), k_89 x3 x4 M = some (v, M') → G p l e (rmD 4) s m args below meth c E 7 0 0 (QR below args s E 0 0 (some (.int v)) M') 89 [(0, .ref (eA E 67)), (3, .int x3), (4, .int x4)] [] M) (h : b_X10_findSet_67_123 k_89 n x3 x4 x5 x6 M = some (v, M')) : G p l e (rmD 4) s m args below meth c E 7 0 0 (QR below args s E 0 0 (some (.int v)) M') 123 [(0, .ref (eA E 67)), (3, .int x3), (4, .int x4), (5, .int x5), (6, .int x6)] [] M := by
  induction n generalizing x3 x4 x5 x6 M with
  | zero => cases h
  | succ n ih => exact gb_X10_findSet_67_123 hE C hr hk_89 (fun _ _ _ _ _ => ih)  h
def bb_X10_findSet_67_89 (k_89 : Int32 → Int32 → Mm → Option (Int32 × Mm)) (x3 : Int32) (x4 : Int32) (M : Mm) : Option (Int32 × Mm) := if (shI (1 : Int32) (M.1 67 19)) ≤ x4 then (some (x3, M)) else (bd (f_X10_ones (x4.toInt64)) fun v_5 => bd (f_X10_ones (x3.toInt64)) fun v_7 => if v_5 < v_7 then (b_X10_findSet_67_123 k_89 FU x3 x4 (1 : Int32) (0 : Int32) M) else (ltv (x4 + (1 : Int32)) fun x4_8 => k_89 x3 x4_8 M))
set_option maxHeartbeats 4000000 in
set_option maxRecDepth 100000 in
theorem gb_X10_findSet_67_89  {k_89 : Int32 → Int32 → Mm → Option (Int32 × Mm)} {x3 : Int32} {x4 : Int32} {M : Mm} {v : Int32} {M' : Mm} (hE : Has shM (eH E)) (C : Cx RX10 cX10_findSet 7 p (rmD 4) s m args meth c E) (hr : meth.sig.returnType = (some .int)) (hk_89 : ∀ (x3 : Int32) (x4 : Int32) (M : Mm), k_89 x3 x4 M = some (v, M') → G p l e (rmD 4) s m args below meth c E 7 0 0 (QR below args s E 0 0 (some (.int v)) M') 89 [(0, .ref (eA E 67)), (3, .int x3), (4, .int x4)] [] M) (h : bb_X10_findSet_67_89 k_89 x3 x4 M = some (v, M')) : G p l e (rmD 4) s m args below meth c E 7 0 0 (QR below args s E 0 0 (some (.int v)) M') 89 [(0, .ref (eA E 67)), (3, .int x3), (4, .int x4)] [] M := by
  unfold bb_X10_findSet_67_89 at h
  refine G.iload C 2 dX10_findSet_89 rfl ?_
  refine G.iconst (v := (1 : Int32)) C dX10_findSet_91 (by decide) ?_
  refine G.aload_n C 0 dX10_findSet_92 rfl rfl ?_
  refine G.getI (k := 19) C k_X10 (sm_67 hE) rfl (by decide) tg_1450 dX10_findSet_93 ?_
  refine G.isl C dX10_findSet_96 ?_
  refine G.icmp_ge (tgt := 177) C dX10_findSet_97 (by decide) (fun hc => ?_) (fun hc => ?_)
  · have h := it_t h hc
    refine G.iload_n C 1 dX10_findSet_177 rfl rfl ?_
    cases h
    exact G.iret C hr dX10_findSet_178
  · have h := it_f h hc
    refine G.iload C 2 dX10_findSet_100 rfl ?_
    refine G.i2l (v := x4.toInt64) C dX10_findSet_102 rfl ?_
    obtain ⟨v_5, hv_4, h⟩ := bd_ex h
    refine G.callS (rest := []) C (s_X10_ones  hv_4) ⟨tg_1706, tg_103, ok_X10_ones, Nat.le_of_ble_eq_true rfl, Nat.le_of_ble_eq_true rfl⟩ tg_1704 tg_1705 rfl (Nat.le_of_ble_eq_true rfl) dX10_findSet_103 ⟨Nat.le_refl 0, Nat.le_refl 0⟩ ?_
    refine G.iload_n C 1 dX10_findSet_106 rfl rfl ?_
    refine G.i2l (v := x3.toInt64) C dX10_findSet_107 rfl ?_
    obtain ⟨v_7, hv_6, h⟩ := bd_ex h
    refine G.callS (rest := [.int v_5]) C (s_X10_ones  hv_6) ⟨tg_1706, tg_103, ok_X10_ones, Nat.le_of_ble_eq_true rfl, Nat.le_of_ble_eq_true rfl⟩ tg_1704 tg_1705 rfl (Nat.le_of_ble_eq_true rfl) dX10_findSet_108 ⟨Nat.le_refl 0, Nat.le_refl 0⟩ ?_
    refine G.icmp_lt (tgt := 117) C dX10_findSet_111 (by decide) (fun hc => ?_) (fun hc => ?_)
    · have h := it_t h hc
      refine G.iconst (v := (1 : Int32)) C dX10_findSet_117 (by decide) ?_
      refine G.istore (L' := [(5, .int (1 : Int32)), (0, .ref (eA E 67)), (3, .int x3), (4, .int x4)]) C dX10_findSet_118 rfl (by decide) rfl ?_
      refine G.iconst (v := (0 : Int32)) C dX10_findSet_120 (by decide) ?_
      refine G.istore (L' := [(6, .int (0 : Int32)), (5, .int (1 : Int32)), (0, .ref (eA E 67)), (3, .int x3), (4, .int x4)]) C dX10_findSet_121 rfl (by decide) rfl ?_
      exact G.sub [2, 3, 4, 1, 0] rfl (g_X10_findSet_67_123 hE C hr hk_89  h)
    · have h := it_f h hc
      refine G.goto (tgt := 171) C dX10_findSet_114 (by decide) ?_
      obtain ⟨x4_8, ex4_8, h⟩ := ltv_ex h
      refine G.iinc (L' := [(4, .int x4_8), (0, .ref (eA E 67)), (3, .int x3)]) C 2 dX10_findSet_171 rfl (ex4_8.trans rfl) (by decide) rfl ?_
      refine G.goto (tgt := 89) C dX10_findSet_174 (by decide) ?_
      exact G.sub [1, 2, 0] rfl (hk_89 _ _ _  h)
def b_X10_findSet_67_89 : Nat → Int32 → Int32 → Mm → Option (Int32 × Mm)
  | 0, _, _, _ => none
  | n + 1, x3, x4, M => bb_X10_findSet_67_89 (b_X10_findSet_67_89 n) x3 x4 M
set_option maxHeartbeats 4000000 in
theorem g_X10_findSet_67_89  {n : Nat} {x3 : Int32} {x4 : Int32} {M : Mm} {v : Int32} {M' : Mm} (hE : Has shM (eH E)) (C : Cx RX10 cX10_findSet 7 p (rmD 4) s m args meth c E) (hr : meth.sig.returnType = (some .int)) (h : b_X10_findSet_67_89 n x3 x4 M = some (v, M')) : G p l e (rmD 4) s m args below meth c E 7 0 0 (QR below args s E 0 0 (some (.int v)) M') 89 [(0, .ref (eA E 67)), (3, .int x3), (4, .int x4)] [] M := by
  induction n generalizing x3 x4 M with
  | zero => cases h
  | succ n ih => exact gb_X10_findSet_67_89 hE C hr (fun _ _ _ => ih)  h
def bb_X10_findSet_67_2 (k_2 : Int32 → Int32 → Int32 → Mm → Option (Int32 × Mm)) (x1 : Int32) (x2 : Int32) (x3 : Int32) (M : Mm) : Option (Int32 × Mm) := if (M.1 67 19) ≤ x3 then (ltv ((shI (1 : Int32) (M.1 67 19)) - (1 : Int32)) fun x3_1 => b_X10_findSet_67_89 FU x3_1 (0 : Int32) M) else (gd (inb x3 16) (ltv (wI M 108 (ix x3) (shI (1 : Int32) x3)) fun M_3 => b_X10_findSet_67_22 k_2 FU x1 x2 x3 (0 : Int32) M_3))
set_option maxHeartbeats 4000000 in
set_option maxRecDepth 100000 in
theorem gb_X10_findSet_67_2  {k_2 : Int32 → Int32 → Int32 → Mm → Option (Int32 × Mm)} {x1 : Int32} {x2 : Int32} {x3 : Int32} {M : Mm} {v : Int32} {M' : Mm} (hE : Has shM (eH E)) (C : Cx RX10 cX10_findSet 7 p (rmD 4) s m args meth c E) (hr : meth.sig.returnType = (some .int)) (hk_2 : ∀ (x1 : Int32) (x2 : Int32) (x3 : Int32) (M : Mm), k_2 x1 x2 x3 M = some (v, M') → G p l e (rmD 4) s m args below meth c E 7 0 0 (QR below args s E 0 0 (some (.int v)) M') 2 [(0, .ref (eA E 67)), (1, .int x1), (2, .int x2), (3, .int x3)] [] M) (h : bb_X10_findSet_67_2 k_2 x1 x2 x3 M = some (v, M')) : G p l e (rmD 4) s m args below meth c E 7 0 0 (QR below args s E 0 0 (some (.int v)) M') 2 [(0, .ref (eA E 67)), (1, .int x1), (2, .int x2), (3, .int x3)] [] M := by
  unfold bb_X10_findSet_67_2 at h
  refine G.iload_n C 3 dX10_findSet_2 rfl rfl ?_
  refine G.aload_n C 0 dX10_findSet_3 rfl rfl ?_
  refine G.getI (k := 19) C k_X10 (sm_67 hE) rfl (by decide) tg_1450 dX10_findSet_4 ?_
  refine G.icmp_ge (tgt := 77) C dX10_findSet_7 (by decide) (fun hc => ?_) (fun hc => ?_)
  · have h := it_t h hc
    refine G.iconst (v := (1 : Int32)) C dX10_findSet_77 (by decide) ?_
    refine G.aload_n C 0 dX10_findSet_78 rfl rfl ?_
    refine G.getI (k := 19) C k_X10 (sm_67 hE) rfl (by decide) tg_1450 dX10_findSet_79 ?_
    refine G.isl C dX10_findSet_82 ?_
    refine G.iconst (v := (1 : Int32)) C dX10_findSet_83 (by decide) ?_
    refine G.isub C dX10_findSet_84 ?_
    obtain ⟨x3_1, ex3_1, h⟩ := ltv_ex h
    refine G.istore_n (L' := [(3, .int x3_1), (0, .ref (eA E 67)), (1, .int x1), (2, .int x2)]) C dX10_findSet_85 rfl ex3_1 (by decide) rfl ?_
    refine G.iconst (v := (0 : Int32)) C dX10_findSet_86 (by decide) ?_
    refine G.istore (L' := [(4, .int (0 : Int32)), (3, .int x3_1), (0, .ref (eA E 67)), (1, .int x1), (2, .int x2)]) C dX10_findSet_87 rfl (by decide) rfl ?_
    exact G.sub [2, 1, 0] rfl (g_X10_findSet_67_89 hE C hr  h)
  · have h := it_f h hc
    refine G.aload_n C 0 dX10_findSet_10 rfl rfl ?_
    refine G.getR (k := 46) C k_X10 (sm_67 hE) rfl (by decide) tg_1477 dX10_findSet_11 ?_
    refine G.iload_n C 3 dX10_findSet_14 rfl rfl ?_
    refine G.iconst (v := (1 : Int32)) C dX10_findSet_15 (by decide) ?_
    refine G.iload_n C 3 dX10_findSet_16 rfl rfl ?_
    refine G.isl C dX10_findSet_17 ?_
    obtain ⟨hg_2, h⟩ := gd_ex h
    obtain ⟨M_3, eM_3, h⟩ := ltv_ex h
    refine G.sI (j := (ix x3)) C (sm_108 hE) hg_2 rfl dX10_findSet_18 eM_3 ?_
    refine G.iconst (v := (0 : Int32)) C dX10_findSet_19 (by decide) ?_
    refine G.istore (L' := [(4, .int (0 : Int32)), (0, .ref (eA E 67)), (1, .int x1), (2, .int x2), (3, .int x3)]) C dX10_findSet_20 rfl (by decide) rfl ?_
    exact G.sub [1, 2, 3, 4, 0] rfl (g_X10_findSet_67_22 hE C hr hk_2  h)
def b_X10_findSet_67_2 : Nat → Int32 → Int32 → Int32 → Mm → Option (Int32 × Mm)
  | 0, _, _, _, _ => none
  | n + 1, x1, x2, x3, M => bb_X10_findSet_67_2 (b_X10_findSet_67_2 n) x1 x2 x3 M
set_option maxHeartbeats 4000000 in
theorem g_X10_findSet_67_2  {n : Nat} {x1 : Int32} {x2 : Int32} {x3 : Int32} {M : Mm} {v : Int32} {M' : Mm} (hE : Has shM (eH E)) (C : Cx RX10 cX10_findSet 7 p (rmD 4) s m args meth c E) (hr : meth.sig.returnType = (some .int)) (h : b_X10_findSet_67_2 n x1 x2 x3 M = some (v, M')) : G p l e (rmD 4) s m args below meth c E 7 0 0 (QR below args s E 0 0 (some (.int v)) M') 2 [(0, .ref (eA E 67)), (1, .int x1), (2, .int x2), (3, .int x3)] [] M := by
  induction n generalizing x1 x2 x3 M with
  | zero => cases h
  | succ n ih => exact gb_X10_findSet_67_2 hE C hr (fun _ _ _ _ => ih)  h
def bb_X10_findSet_67_0 (x1 : Int32) (x2 : Int32) (M : Mm) : Option (Int32 × Mm) := b_X10_findSet_67_2 FU x1 x2 (0 : Int32) M
set_option maxHeartbeats 4000000 in
set_option maxRecDepth 100000 in
theorem gb_X10_findSet_67_0  {x1 : Int32} {x2 : Int32} {M : Mm} {v : Int32} {M' : Mm} (hE : Has shM (eH E)) (C : Cx RX10 cX10_findSet 7 p (rmD 4) s m args meth c E) (hr : meth.sig.returnType = (some .int)) (h : bb_X10_findSet_67_0 x1 x2 M = some (v, M')) : G p l e (rmD 4) s m args below meth c E 7 0 0 (QR below args s E 0 0 (some (.int v)) M') 0 [(0, .ref (eA E 67)), (1, .int x1), (2, .int x2)] [] M := by
  unfold bb_X10_findSet_67_0 at h
  refine G.iconst (v := (0 : Int32)) C dX10_findSet_0 (by decide) ?_
  refine G.istore_n (L' := [(3, .int (0 : Int32)), (0, .ref (eA E 67)), (1, .int x1), (2, .int x2)]) C dX10_findSet_1 rfl rfl (by decide) rfl ?_
  exact G.sub [1, 2, 3, 0] rfl (g_X10_findSet_67_2 hE C hr  h)
def f_X10_findSet_67 (x1 : Int32) (x2 : Int32) (M : Mm) : Option (Int32 × Mm) := bb_X10_findSet_67_0 x1 x2 M
theorem s_X10_findSet_67 {l : Launch} {E : Ev} {x1 : Int32} {x2 : Int32} {M : Mm} {v : Int32} {M' : Mm} (hE : Has shM (eH E)) (h : f_X10_findSet_67 x1 x2 M = some (v, M')) : MetA l yX10_findSet cX10_findSet 7 (some .int) 4 E [.ref (eA E 67), .int x1, .int x2] M (some (.int v)) M' := by
  refine MetA.of (by decide +kernel) (Nat.le_of_ble_eq_true rfl) ?_
  intro p e s m below meth c C hr hnm
  exact G.sub [0, 1, 2] rfl (gb_X10_findSet_67_0 hE C hr  h)
def bb_X10_punches_67_30 (x1 : Int32) (x2 : Int32) (x3 : Int32) (s1 : Int32) (M : Mm) : Option (Int32 × Mm) := bd2 (f_X10_bad_67 s1 (1 : Int32) M) fun v_8 M_7 => if v_8 = 0 then (bd2 (f_X10_findSet_67 x1 x2 M_7) fun v_11 M_10 => if x3 = 0 then (bd (f_X10_ones (v_11.toInt64)) fun v_13 => some (v_13, M_10)) else (some (v_11, M_10))) else (some ((0 : Int32), M_7))
set_option maxHeartbeats 4000000 in
set_option maxRecDepth 100000 in
theorem gb_X10_punches_67_30  {x1 : Int32} {x2 : Int32} {x3 : Int32} {s1 : Int32} {M : Mm} {v : Int32} {M' : Mm} (hE : Has shM (eH E)) (C : Cx RX10 cX10_punches 5 p (rmD 5) s m args meth c E) (hr : meth.sig.returnType = (some .int)) (h : bb_X10_punches_67_30 x1 x2 x3 s1 M = some (v, M')) : G p l e (rmD 5) s m args below meth c E 5 0 0 (QR below args s E 0 0 (some (.int v)) M') 30 [(0, .ref (eA E 67)), (1, .int x1), (2, .int x2), (3, .int x3)] [.int s1, .ref (eA E 67)] M := by
  unfold bb_X10_punches_67_30 at h
  refine G.iconst (v := (1 : Int32)) C dX10_punches_30 (by decide) ?_
  obtain ⟨v_8, M_7, hv_6, h⟩ := bd2_ex h
  refine G.callV (rest := []) C (s_X10_bad_67 hE  hv_6) ⟨tg_1600, tg_103, ok_X10_bad, Nat.le_of_ble_eq_true rfl, Nat.le_of_ble_eq_true rfl⟩ tg_1597 tg_1599 tg_46 (sm_67 hE) rfl rfl (Nat.le_of_ble_eq_true rfl) dX10_punches_31 ⟨Nat.le_refl 0, Nat.le_refl 0⟩ ?_
  refine G.if_eq (tgt := 39) C dX10_punches_34 (by decide) (fun hc => ?_) (fun hc => ?_)
  · have h := it_t h hc
    refine G.aload_n C 0 dX10_punches_39 rfl rfl ?_
    refine G.iload_n C 1 dX10_punches_40 rfl rfl ?_
    refine G.iload_n C 2 dX10_punches_41 rfl rfl ?_
    obtain ⟨v_11, M_10, hv_9, h⟩ := bd2_ex h
    refine G.callV (rest := []) C (s_X10_findSet_67 hE  hv_9) ⟨tg_1750, tg_103, ok_X10_findSet, Nat.le_of_ble_eq_true rfl, Nat.le_of_ble_eq_true rfl⟩ tg_1747 tg_1749 tg_66 (sm_67 hE) rfl rfl (Nat.le_of_ble_eq_true rfl) dX10_punches_42 ⟨Nat.le_refl 0, Nat.le_refl 0⟩ ?_
    refine G.istore (L' := [(4, .int v_11), (0, .ref (eA E 67)), (1, .int x1), (2, .int x2), (3, .int x3)]) C dX10_punches_45 rfl (by decide) rfl ?_
    refine G.iload_n C 4 dX10_punches_47 rfl rfl ?_
    refine G.if_ne (tgt := 60) C dX10_punches_48 (by decide) (fun hc => ?_) (fun hc => ?_)
    · have h := it_f h hc
      refine G.iload C 0 dX10_punches_60 rfl ?_
      cases h
      exact G.iret C hr dX10_punches_62
    · have h := it_t h hc
      refine G.iload C 0 dX10_punches_51 rfl ?_
      refine G.i2l (v := v_11.toInt64) C dX10_punches_53 rfl ?_
      obtain ⟨v_13, hv_12, h⟩ := bd_ex h
      refine G.callS (rest := []) C (s_X10_ones  hv_12) ⟨tg_1706, tg_103, ok_X10_ones, Nat.le_of_ble_eq_true rfl, Nat.le_of_ble_eq_true rfl⟩ tg_1704 tg_1705 rfl (Nat.le_of_ble_eq_true rfl) dX10_punches_54 ⟨Nat.le_refl 0, Nat.le_refl 0⟩ ?_
      refine G.goto (tgt := 62) C dX10_punches_57 (by decide) ?_
      cases h
      exact G.iret C hr dX10_punches_62
  · have h := it_f h hc
    refine G.iconst (v := (0 : Int32)) C dX10_punches_37 (by decide) ?_
    cases h
    exact G.iret C hr dX10_punches_38
def bb_X10_punches_67_25 (x1 : Int32) (x2 : Int32) (x3 : Int32) (M : Mm) : Option (Int32 × Mm) := bb_X10_punches_67_30 x1 x2 x3 (1 : Int32) M
set_option maxHeartbeats 4000000 in
set_option maxRecDepth 100000 in
theorem gb_X10_punches_67_25  {x1 : Int32} {x2 : Int32} {x3 : Int32} {M : Mm} {v : Int32} {M' : Mm} (hE : Has shM (eH E)) (C : Cx RX10 cX10_punches 5 p (rmD 5) s m args meth c E) (hr : meth.sig.returnType = (some .int)) (h : bb_X10_punches_67_25 x1 x2 x3 M = some (v, M')) : G p l e (rmD 5) s m args below meth c E 5 0 0 (QR below args s E 0 0 (some (.int v)) M') 25 [(0, .ref (eA E 67)), (1, .int x1), (2, .int x2), (3, .int x3)] [.ref (eA E 67)] M := by
  unfold bb_X10_punches_67_25 at h
  refine G.iconst (v := (1 : Int32)) C dX10_punches_25 (by decide) ?_
  refine G.goto (tgt := 30) C dX10_punches_26 (by decide) ?_
  exact G.sub [0, 1, 2, 3] rfl (gb_X10_punches_67_30 hE C hr  h)
def bb_X10_punches_67_0 (x1 : Int32) (x2 : Int32) (x3 : Int32) (M : Mm) : Option (Int32 × Mm) := ltv (wI M 67 0 (0 : Int32)) fun M_1 => bd (f_X10_in x1 (0 : Int32) (64 : Int32)) fun v_3 => if v_3 = 0 then (bb_X10_punches_67_25 x1 x2 x3 M_1) else (bd (f_X10_in x3 (0 : Int32) (1 : Int32)) fun v_5 => if v_5 = 0 then (bb_X10_punches_67_25 x1 x2 x3 M_1) else (bb_X10_punches_67_30 x1 x2 x3 (0 : Int32) M_1))
set_option maxHeartbeats 4000000 in
set_option maxRecDepth 100000 in
theorem gb_X10_punches_67_0  {x1 : Int32} {x2 : Int32} {x3 : Int32} {M : Mm} {v : Int32} {M' : Mm} (hE : Has shM (eH E)) (C : Cx RX10 cX10_punches 5 p (rmD 5) s m args meth c E) (hr : meth.sig.returnType = (some .int)) (h : bb_X10_punches_67_0 x1 x2 x3 M = some (v, M')) : G p l e (rmD 5) s m args below meth c E 5 0 0 (QR below args s E 0 0 (some (.int v)) M') 0 [(0, .ref (eA E 67)), (1, .int x1), (2, .int x2), (3, .int x3)] [] M := by
  unfold bb_X10_punches_67_0 at h
  refine G.aload_n C 0 dX10_punches_0 rfl rfl ?_
  refine G.iconst (v := (0 : Int32)) C dX10_punches_1 (by decide) ?_
  obtain ⟨M_1, eM_1, h⟩ := ltv_ex h
  refine G.putI (k := 0) C k_X10 (sm_67 hE) rfl (by decide) tg_1431 rfl rfl dX10_punches_2 eM_1 ?_
  refine G.aload_n C 0 dX10_punches_5 rfl rfl ?_
  refine G.iload_n C 1 dX10_punches_6 rfl rfl ?_
  refine G.iconst (v := (0 : Int32)) C dX10_punches_7 (by decide) ?_
  refine G.bipush (v := (64 : Int32)) C dX10_punches_8 (by decide) ?_
  obtain ⟨v_3, hv_2, h⟩ := bd_ex h
  refine G.callS (rest := [.ref (eA E 67)]) C (s_X10_in  hv_2) ⟨tg_1596, tg_103, ok_X10_in, Nat.le_of_ble_eq_true rfl, Nat.le_of_ble_eq_true rfl⟩ tg_1594 tg_1595 rfl (Nat.le_of_ble_eq_true rfl) dX10_punches_10 ⟨Nat.le_refl 0, Nat.le_refl 0⟩ ?_
  refine G.if_eq (tgt := 25) C dX10_punches_13 (by decide) (fun hc => ?_) (fun hc => ?_)
  · have h := it_t h hc
    exact G.sub [0, 1, 2, 3] rfl (gb_X10_punches_67_25 hE C hr  h)
  · have h := it_f h hc
    refine G.iload_n C 3 dX10_punches_16 rfl rfl ?_
    refine G.iconst (v := (0 : Int32)) C dX10_punches_17 (by decide) ?_
    refine G.iconst (v := (1 : Int32)) C dX10_punches_18 (by decide) ?_
    obtain ⟨v_5, hv_4, h⟩ := bd_ex h
    refine G.callS (rest := [.ref (eA E 67)]) C (s_X10_in  hv_4) ⟨tg_1596, tg_103, ok_X10_in, Nat.le_of_ble_eq_true rfl, Nat.le_of_ble_eq_true rfl⟩ tg_1594 tg_1595 rfl (Nat.le_of_ble_eq_true rfl) dX10_punches_19 ⟨Nat.le_refl 0, Nat.le_refl 0⟩ ?_
    refine G.if_ne (tgt := 29) C dX10_punches_22 (by decide) (fun hc => ?_) (fun hc => ?_)
    · have h := it_f h hc
      refine G.iconst (v := (0 : Int32)) C dX10_punches_29 (by decide) ?_
      exact G.sub [0, 1, 2, 3] rfl (gb_X10_punches_67_30 hE C hr  h)
    · have h := it_t h hc
      exact G.sub [0, 1, 2, 3] rfl (gb_X10_punches_67_25 hE C hr  h)
def f_X10_punches_67 (x1 : Int32) (x2 : Int32) (x3 : Int32) (M : Mm) : Option (Int32 × Mm) := bb_X10_punches_67_0 x1 x2 x3 M
theorem s_X10_punches_67 {l : Launch} {E : Ev} {x1 : Int32} {x2 : Int32} {x3 : Int32} {M : Mm} {v : Int32} {M' : Mm} (hE : Has shM (eH E)) (h : f_X10_punches_67 x1 x2 x3 M = some (v, M')) : MetA l yX10_punches cX10_punches 5 (some .int) 5 E [.ref (eA E 67), .int x1, .int x2, .int x3] M (some (.int v)) M' := by
  refine MetA.of (by decide +kernel) (Nat.le_of_ble_eq_true rfl) ?_
  intro p e s m below meth c C hr hnm
  exact G.sub [0, 1, 2, 3] rfl (gb_X10_punches_67_0 hE C hr  h)
def bb_X10_served_67_69 (k_69 : Int32 → Int32 → Mm → Option (Int32 × Mm)) (x4 : Int32) (x5 : Int32) (M : Mm) : Option (Int32 × Mm) := if ((shrI x4 x5) &&& (1 : Int32)) = 0 then (ltv (x5 + (1 : Int32)) fun x5_17 => k_69 x4 x5_17 M) else (some (x5, M))
set_option maxHeartbeats 4000000 in
set_option maxRecDepth 100000 in
theorem gb_X10_served_67_69  {k_69 : Int32 → Int32 → Mm → Option (Int32 × Mm)} {x4 : Int32} {x5 : Int32} {M : Mm} {v : Int32} {M' : Mm} (hE : Has shM (eH E)) (C : Cx RX10 cX10_served 6 p (rmD 5) s m args meth c E) (hr : meth.sig.returnType = (some .int)) (hk_69 : ∀ (x4 : Int32) (x5 : Int32) (M : Mm), k_69 x4 x5 M = some (v, M') → G p l e (rmD 5) s m args below meth c E 6 0 0 (QR below args s E 0 0 (some (.int v)) M') 69 [(4, .int x4), (5, .int x5)] [] M) (h : bb_X10_served_67_69 k_69 x4 x5 M = some (v, M')) : G p l e (rmD 5) s m args below meth c E 6 0 0 (QR below args s E 0 0 (some (.int v)) M') 69 [(4, .int x4), (5, .int x5)] [] M := by
  unfold bb_X10_served_67_69 at h
  refine G.iload C 0 dX10_served_69 rfl ?_
  refine G.iload C 1 dX10_served_71 rfl ?_
  refine G.isr C dX10_served_73 ?_
  refine G.iconst (v := (1 : Int32)) C dX10_served_74 (by decide) ?_
  refine G.iand C dX10_served_75 ?_
  refine G.if_ne (tgt := 85) C dX10_served_76 (by decide) (fun hc => ?_) (fun hc => ?_)
  · have h := it_f h hc
    refine G.iload C 1 dX10_served_85 rfl ?_
    cases h
    exact G.iret C hr dX10_served_87
  · have h := it_t h hc
    obtain ⟨x5_17, ex5_17, h⟩ := ltv_ex h
    refine G.iinc (L' := [(5, .int x5_17), (4, .int x4)]) C 1 dX10_served_79 rfl (ex5_17.trans rfl) (by decide) rfl ?_
    refine G.goto (tgt := 69) C dX10_served_82 (by decide) ?_
    exact G.sub [1, 0] rfl (hk_69 _ _ _  h)
def b_X10_served_67_69 : Nat → Int32 → Int32 → Mm → Option (Int32 × Mm)
  | 0, _, _, _ => none
  | n + 1, x4, x5, M => bb_X10_served_67_69 (b_X10_served_67_69 n) x4 x5 M
set_option maxHeartbeats 4000000 in
theorem g_X10_served_67_69  {n : Nat} {x4 : Int32} {x5 : Int32} {M : Mm} {v : Int32} {M' : Mm} (hE : Has shM (eH E)) (C : Cx RX10 cX10_served 6 p (rmD 5) s m args meth c E) (hr : meth.sig.returnType = (some .int)) (h : b_X10_served_67_69 n x4 x5 M = some (v, M')) : G p l e (rmD 5) s m args below meth c E 6 0 0 (QR below args s E 0 0 (some (.int v)) M') 69 [(4, .int x4), (5, .int x5)] [] M := by
  induction n generalizing x4 x5 M with
  | zero => cases h
  | succ n ih => exact gb_X10_served_67_69 hE C hr (fun _ _ _ => ih)  h
def bb_X10_served_67_42 (x1 : Int32) (x2 : Int32) (x3 : Int32) (s1 : Int32) (M : Mm) : Option (Int32 × Mm) := bd2 (f_X10_bad_67 s1 (2 : Int32) M) fun v_11 M_10 => if v_11 = 0 then (bd2 (f_X10_findSet_67 x2 x3 M_10) fun v_14 M_13 => gd (inb x1 16) (ltv (v_14 &&& (M_13.1 108 (ix x1))) fun x4_16 => b_X10_served_67_69 FU x4_16 (0 : Int32) M_13)) else (some ((0 : Int32), M_10))
set_option maxHeartbeats 4000000 in
set_option maxRecDepth 100000 in
theorem gb_X10_served_67_42  {x1 : Int32} {x2 : Int32} {x3 : Int32} {s1 : Int32} {M : Mm} {v : Int32} {M' : Mm} (hE : Has shM (eH E)) (C : Cx RX10 cX10_served 6 p (rmD 5) s m args meth c E) (hr : meth.sig.returnType = (some .int)) (h : bb_X10_served_67_42 x1 x2 x3 s1 M = some (v, M')) : G p l e (rmD 5) s m args below meth c E 6 0 0 (QR below args s E 0 0 (some (.int v)) M') 42 [(0, .ref (eA E 67)), (1, .int x1), (2, .int x2), (3, .int x3)] [.int s1, .ref (eA E 67)] M := by
  unfold bb_X10_served_67_42 at h
  refine G.iconst (v := (2 : Int32)) C dX10_served_42 (by decide) ?_
  obtain ⟨v_11, M_10, hv_9, h⟩ := bd2_ex h
  refine G.callV (rest := []) C (s_X10_bad_67 hE  hv_9) ⟨tg_1600, tg_103, ok_X10_bad, Nat.le_of_ble_eq_true rfl, Nat.le_of_ble_eq_true rfl⟩ tg_1597 tg_1599 tg_46 (sm_67 hE) rfl rfl (Nat.le_of_ble_eq_true rfl) dX10_served_43 ⟨Nat.le_refl 0, Nat.le_refl 0⟩ ?_
  refine G.if_eq (tgt := 51) C dX10_served_46 (by decide) (fun hc => ?_) (fun hc => ?_)
  · have h := it_t h hc
    refine G.aload_n C 0 dX10_served_51 rfl rfl ?_
    refine G.iload_n C 2 dX10_served_52 rfl rfl ?_
    refine G.iload_n C 3 dX10_served_53 rfl rfl ?_
    obtain ⟨v_14, M_13, hv_12, h⟩ := bd2_ex h
    refine G.callV (rest := []) C (s_X10_findSet_67 hE  hv_12) ⟨tg_1750, tg_103, ok_X10_findSet, Nat.le_of_ble_eq_true rfl, Nat.le_of_ble_eq_true rfl⟩ tg_1747 tg_1749 tg_66 (sm_67 hE) rfl rfl (Nat.le_of_ble_eq_true rfl) dX10_served_54 ⟨Nat.le_refl 0, Nat.le_refl 0⟩ ?_
    refine G.aload_n C 0 dX10_served_57 rfl rfl ?_
    refine G.getR (k := 46) C k_X10 (sm_67 hE) rfl (by decide) tg_1477 dX10_served_58 ?_
    refine G.iload_n C 1 dX10_served_61 rfl rfl ?_
    obtain ⟨hg_15, h⟩ := gd_ex h
    refine G.aI (j := ix x1) C (sm_108 hE) hg_15 rfl dX10_served_62 ?_
    refine G.iand C dX10_served_63 ?_
    obtain ⟨x4_16, ex4_16, h⟩ := ltv_ex h
    refine G.istore (L' := [(4, .int x4_16), (0, .ref (eA E 67)), (1, .int x1), (2, .int x2), (3, .int x3)]) C dX10_served_64 ex4_16 (by decide) rfl ?_
    refine G.iconst (v := (0 : Int32)) C dX10_served_66 (by decide) ?_
    refine G.istore (L' := [(5, .int (0 : Int32)), (4, .int x4_16), (0, .ref (eA E 67)), (1, .int x1), (2, .int x2), (3, .int x3)]) C dX10_served_67 rfl (by decide) rfl ?_
    exact G.sub [1, 0] rfl (g_X10_served_67_69 hE C hr  h)
  · have h := it_f h hc
    refine G.iconst (v := (0 : Int32)) C dX10_served_49 (by decide) ?_
    cases h
    exact G.iret C hr dX10_served_50
def bb_X10_served_67_19 (x1 : Int32) (x2 : Int32) (x3 : Int32) (s1 : Int32) (M : Mm) : Option (Int32 × Mm) := bd2 (f_X10_bad_67 s1 (1 : Int32) M) fun v_6 M_5 => if v_6 = 0 then (bd (f_X10_in x2 (0 : Int32) (64 : Int32)) fun v_8 => if v_8 = 0 then (bb_X10_served_67_42 x1 x2 x3 (1 : Int32) M_5) else (bb_X10_served_67_42 x1 x2 x3 (0 : Int32) M_5)) else (some ((0 : Int32), M_5))
set_option maxHeartbeats 4000000 in
set_option maxRecDepth 100000 in
theorem gb_X10_served_67_19  {x1 : Int32} {x2 : Int32} {x3 : Int32} {s1 : Int32} {M : Mm} {v : Int32} {M' : Mm} (hE : Has shM (eH E)) (C : Cx RX10 cX10_served 6 p (rmD 5) s m args meth c E) (hr : meth.sig.returnType = (some .int)) (h : bb_X10_served_67_19 x1 x2 x3 s1 M = some (v, M')) : G p l e (rmD 5) s m args below meth c E 6 0 0 (QR below args s E 0 0 (some (.int v)) M') 19 [(0, .ref (eA E 67)), (1, .int x1), (2, .int x2), (3, .int x3)] [.int s1, .ref (eA E 67)] M := by
  unfold bb_X10_served_67_19 at h
  refine G.iconst (v := (1 : Int32)) C dX10_served_19 (by decide) ?_
  obtain ⟨v_6, M_5, hv_4, h⟩ := bd2_ex h
  refine G.callV (rest := []) C (s_X10_bad_67 hE  hv_4) ⟨tg_1600, tg_103, ok_X10_bad, Nat.le_of_ble_eq_true rfl, Nat.le_of_ble_eq_true rfl⟩ tg_1597 tg_1599 tg_46 (sm_67 hE) rfl rfl (Nat.le_of_ble_eq_true rfl) dX10_served_20 ⟨Nat.le_refl 0, Nat.le_refl 0⟩ ?_
  refine G.if_ne (tgt := 49) C dX10_served_23 (by decide) (fun hc => ?_) (fun hc => ?_)
  · have h := it_f h hc
    refine G.iconst (v := (0 : Int32)) C dX10_served_49 (by decide) ?_
    cases h
    exact G.iret C hr dX10_served_50
  · have h := it_t h hc
    refine G.aload_n C 0 dX10_served_26 rfl rfl ?_
    refine G.iload_n C 2 dX10_served_27 rfl rfl ?_
    refine G.iconst (v := (0 : Int32)) C dX10_served_28 (by decide) ?_
    refine G.bipush (v := (64 : Int32)) C dX10_served_29 (by decide) ?_
    obtain ⟨v_8, hv_7, h⟩ := bd_ex h
    refine G.callS (rest := [.ref (eA E 67)]) C (s_X10_in  hv_7) ⟨tg_1596, tg_103, ok_X10_in, Nat.le_of_ble_eq_true rfl, Nat.le_of_ble_eq_true rfl⟩ tg_1594 tg_1595 rfl (Nat.le_of_ble_eq_true rfl) dX10_served_31 ⟨Nat.le_refl 0, Nat.le_refl 0⟩ ?_
    refine G.if_ne (tgt := 41) C dX10_served_34 (by decide) (fun hc => ?_) (fun hc => ?_)
    · have h := it_f h hc
      refine G.iconst (v := (0 : Int32)) C dX10_served_41 (by decide) ?_
      exact G.sub [0, 1, 2, 3] rfl (gb_X10_served_67_42 hE C hr  h)
    · have h := it_t h hc
      refine G.iconst (v := (1 : Int32)) C dX10_served_37 (by decide) ?_
      refine G.goto (tgt := 42) C dX10_served_38 (by decide) ?_
      exact G.sub [0, 1, 2, 3] rfl (gb_X10_served_67_42 hE C hr  h)
def bb_X10_served_67_0 (x1 : Int32) (x2 : Int32) (x3 : Int32) (M : Mm) : Option (Int32 × Mm) := ltv (wI M 67 0 (0 : Int32)) fun M_1 => bd (f_X10_isHollow_67 x1 M_1) fun v_3 => if v_3 = 0 then (bb_X10_served_67_19 x1 x2 x3 (1 : Int32) M_1) else (bb_X10_served_67_19 x1 x2 x3 (0 : Int32) M_1)
set_option maxHeartbeats 4000000 in
set_option maxRecDepth 100000 in
theorem gb_X10_served_67_0  {x1 : Int32} {x2 : Int32} {x3 : Int32} {M : Mm} {v : Int32} {M' : Mm} (hE : Has shM (eH E)) (C : Cx RX10 cX10_served 6 p (rmD 5) s m args meth c E) (hr : meth.sig.returnType = (some .int)) (h : bb_X10_served_67_0 x1 x2 x3 M = some (v, M')) : G p l e (rmD 5) s m args below meth c E 6 0 0 (QR below args s E 0 0 (some (.int v)) M') 0 [(0, .ref (eA E 67)), (1, .int x1), (2, .int x2), (3, .int x3)] [] M := by
  unfold bb_X10_served_67_0 at h
  refine G.aload_n C 0 dX10_served_0 rfl rfl ?_
  refine G.iconst (v := (0 : Int32)) C dX10_served_1 (by decide) ?_
  obtain ⟨M_1, eM_1, h⟩ := ltv_ex h
  refine G.putI (k := 0) C k_X10 (sm_67 hE) rfl (by decide) tg_1431 rfl rfl dX10_served_2 eM_1 ?_
  refine G.aload_n C 0 dX10_served_5 rfl rfl ?_
  refine G.aload_n C 0 dX10_served_6 rfl rfl ?_
  refine G.iload_n C 1 dX10_served_7 rfl rfl ?_
  obtain ⟨v_3, hv_2, h⟩ := bd_ex h
  refine G.callV (rest := [.ref (eA E 67)]) C (s_X10_isHollow_67 hE  hv_2) ⟨tg_1722, tg_103, ok_X10_isHollow, Nat.le_of_ble_eq_true rfl, Nat.le_of_ble_eq_true rfl⟩ tg_1719 tg_1721 tg_65 (sm_67 hE) rfl rfl (Nat.le_of_ble_eq_true rfl) dX10_served_8 ⟨Nat.le_refl 0, Nat.le_refl 0⟩ ?_
  refine G.if_ne (tgt := 18) C dX10_served_11 (by decide) (fun hc => ?_) (fun hc => ?_)
  · have h := it_f h hc
    refine G.iconst (v := (0 : Int32)) C dX10_served_18 (by decide) ?_
    exact G.sub [0, 1, 2, 3] rfl (gb_X10_served_67_19 hE C hr  h)
  · have h := it_t h hc
    refine G.iconst (v := (1 : Int32)) C dX10_served_14 (by decide) ?_
    refine G.goto (tgt := 19) C dX10_served_15 (by decide) ?_
    exact G.sub [0, 1, 2, 3] rfl (gb_X10_served_67_19 hE C hr  h)
def f_X10_served_67 (x1 : Int32) (x2 : Int32) (x3 : Int32) (M : Mm) : Option (Int32 × Mm) := bb_X10_served_67_0 x1 x2 x3 M
theorem s_X10_served_67 {l : Launch} {E : Ev} {x1 : Int32} {x2 : Int32} {x3 : Int32} {M : Mm} {v : Int32} {M' : Mm} (hE : Has shM (eH E)) (h : f_X10_served_67 x1 x2 x3 M = some (v, M')) : MetA l yX10_served cX10_served 6 (some .int) 5 E [.ref (eA E 67), .int x1, .int x2, .int x3] M (some (.int v)) M' := by
  refine MetA.of (by decide +kernel) (Nat.le_of_ble_eq_true rfl) ?_
  intro p e s m below meth c C hr hnm
  exact G.sub [0, 1, 2, 3] rfl (gb_X10_served_67_0 hE C hr  h)
end
