section
variable {p : Program} {l : Launch} {e : Env} {s : State} {m : MethodId} {args : Array Value} {below : List Frame} {meth : Method} {c : Code} {E : Ev}
def bb_X10_print_67_17 (x1 : Int64) (s1 : Int32) (M : Mm) : Option (Int32 × Mm) := bd2 (f_X10_bad_67 s1 (1 : Int32) M) fun v_4 M_3 => if v_4 = 0 then (if (M_3.1 67 26) = (8 : Int32) then (some ((-1 : Int32), M_3)) else (gd (inb (M_3.1 67 26) 8) (ltv (wJ M_3 94 (ix (M_3.1 67 26)) x1) fun M_6 => ltv (wI M_6 67 26 ((M_6.1 67 26) + (1 : Int32))) fun M_7 => some (M_7.1 67 26, M_7)))) else (some ((0 : Int32), M_3))
set_option maxHeartbeats 4000000 in
set_option maxRecDepth 100000 in
theorem gb_X10_print_67_17  {x1 : Int64} {s1 : Int32} {M : Mm} {v : Int32} {M' : Mm} (hE : Has shM (eH E)) (C : Cx RX10 cX10_print 3 p (rmD 2) s m args meth c E) (hr : meth.sig.returnType = (some .int)) (h : bb_X10_print_67_17 x1 s1 M = some (v, M')) : G p l e (rmD 2) s m args below meth c E 3 0 0 (QR below args s E 0 0 (some (.int v)) M') 17 [(0, .ref (eA E 67)), (1, .long x1)] [.int s1, .ref (eA E 67)] M := by
  unfold bb_X10_print_67_17 at h
  refine G.iconst (v := (1 : Int32)) C dX10_print_17 (by decide) ?_
  obtain ⟨v_4, M_3, hv_2, h⟩ := bd2_ex h
  refine G.callV (rest := []) C (s_X10_bad_67 hE  hv_2) ⟨tg_1600, tg_103, ok_X10_bad, Nat.le_of_ble_eq_true rfl, Nat.le_of_ble_eq_true rfl⟩ tg_1597 tg_1599 tg_46 (sm_67 hE) rfl rfl (Nat.le_of_ble_eq_true rfl) dX10_print_18 ⟨Nat.le_refl 0, Nat.le_refl 0⟩ ?_
  refine G.if_eq (tgt := 26) C dX10_print_21 (by decide) (fun hc => ?_) (fun hc => ?_)
  · have h := it_t h hc
    refine G.aload_n C 0 dX10_print_26 rfl rfl ?_
    refine G.getI (k := 26) C k_X10 (sm_67 hE) rfl (by decide) tg_1457 dX10_print_27 ?_
    refine G.bipush (v := (8 : Int32)) C dX10_print_30 (by decide) ?_
    refine G.icmp_ne (tgt := 37) C dX10_print_32 (by decide) (fun hc => ?_) (fun hc => ?_)
    · have h := it_f h hc
      refine G.aload_n C 0 dX10_print_37 rfl rfl ?_
      refine G.getR (k := 29) C k_X10 (sm_67 hE) rfl (by decide) tg_1460 dX10_print_38 ?_
      refine G.aload_n C 0 dX10_print_41 rfl rfl ?_
      refine G.getI (k := 26) C k_X10 (sm_67 hE) rfl (by decide) tg_1457 dX10_print_42 ?_
      refine G.lload_n C 1 dX10_print_45 rfl rfl ?_
      obtain ⟨hg_5, h⟩ := gd_ex h
      obtain ⟨M_6, eM_6, h⟩ := ltv_ex h
      refine G.sJ (j := (ix (M_3.1 67 26))) C (sm_94 hE) hg_5 rfl dX10_print_46 eM_6 ?_
      refine G.aload_n C 0 dX10_print_47 rfl rfl ?_
      refine G.dup C dX10_print_48 rfl ?_
      refine G.getI (k := 26) C k_X10 (sm_67 hE) rfl (by decide) tg_1457 dX10_print_49 ?_
      refine G.iconst (v := (1 : Int32)) C dX10_print_52 (by decide) ?_
      refine G.iadd C dX10_print_53 ?_
      obtain ⟨M_7, eM_7, h⟩ := ltv_ex h
      refine G.putI (k := 26) C k_X10 (sm_67 hE) rfl (by decide) tg_1457 rfl rfl dX10_print_54 eM_7 ?_
      refine G.aload_n C 0 dX10_print_57 rfl rfl ?_
      refine G.getI (k := 26) C k_X10 (sm_67 hE) rfl (by decide) tg_1457 dX10_print_58 ?_
      cases h
      exact G.iret C hr dX10_print_61
    · have h := it_t h hc
      refine G.iconst (v := (-1 : Int32)) C dX10_print_35 (by decide) ?_
      cases h
      exact G.iret C hr dX10_print_36
  · have h := it_f h hc
    refine G.iconst (v := (0 : Int32)) C dX10_print_24 (by decide) ?_
    cases h
    exact G.iret C hr dX10_print_25
def bb_X10_print_67_0 (x1 : Int64) (M : Mm) : Option (Int32 × Mm) := ltv (wI M 67 0 (0 : Int32)) fun M_1 => if x1 = (0 : Int64) then (bb_X10_print_67_17 x1 (1 : Int32) M_1) else (bb_X10_print_67_17 x1 (0 : Int32) M_1)
set_option maxHeartbeats 4000000 in
set_option maxRecDepth 100000 in
theorem gb_X10_print_67_0  {x1 : Int64} {M : Mm} {v : Int32} {M' : Mm} (hE : Has shM (eH E)) (C : Cx RX10 cX10_print 3 p (rmD 2) s m args meth c E) (hr : meth.sig.returnType = (some .int)) (h : bb_X10_print_67_0 x1 M = some (v, M')) : G p l e (rmD 2) s m args below meth c E 3 0 0 (QR below args s E 0 0 (some (.int v)) M') 0 [(0, .ref (eA E 67)), (1, .long x1)] [] M := by
  unfold bb_X10_print_67_0 at h
  refine G.aload_n C 0 dX10_print_0 rfl rfl ?_
  refine G.iconst (v := (0 : Int32)) C dX10_print_1 (by decide) ?_
  obtain ⟨M_1, eM_1, h⟩ := ltv_ex h
  refine G.putI (k := 0) C k_X10 (sm_67 hE) rfl (by decide) tg_1431 rfl rfl dX10_print_2 eM_1 ?_
  refine G.aload_n C 0 dX10_print_5 rfl rfl ?_
  refine G.lload_n C 1 dX10_print_6 rfl rfl ?_
  refine G.lconst (v := (0 : Int64)) C dX10_print_7 (by decide) ?_
  refine G.lcmp C dX10_print_8 (G.if_ne (tgt := 16) C dX10_print_9 (by decide) (fun hc => ?_) (fun hc => ?_))
  · have h := it_f h (lgc_ne.mp hc)
    refine G.iconst (v := (0 : Int32)) C dX10_print_16 (by decide) ?_
    exact G.sub [0, 1] rfl (gb_X10_print_67_17 hE C hr  h)
  · have h := it_t h (lgc_eq.mp hc)
    refine G.iconst (v := (1 : Int32)) C dX10_print_12 (by decide) ?_
    refine G.goto (tgt := 17) C dX10_print_13 (by decide) ?_
    exact G.sub [0, 1] rfl (gb_X10_print_67_17 hE C hr  h)
def f_X10_print_67 (x1 : Int64) (M : Mm) : Option (Int32 × Mm) := bb_X10_print_67_0 x1 M
theorem s_X10_print_67 {l : Launch} {E : Ev} {x1 : Int64} {M : Mm} {v : Int32} {M' : Mm} (hE : Has shM (eH E)) (h : f_X10_print_67 x1 M = some (v, M')) : MetA l yX10_print cX10_print 3 (some .int) 2 E [.ref (eA E 67), .long x1] M (some (.int v)) M' := by
  refine MetA.of (by decide +kernel) (Nat.le_of_ble_eq_true rfl) ?_
  intro p e s m below meth c C hr hnm
  exact G.sub [0, 1] rfl (gb_X10_print_67_0 hE C hr  h)
def bb_X10_areKin_67_0 (x1 : Int32) (x2 : Int32) (x3 : Int32) (x4 : Int32) (M : Mm) : Option Int32 := gd (inb x1 8) (gd (inb x2 8) (bd (f_X10_apartOf (M.2 94 (ix x1)) (M.2 94 (ix x2)) x4) fun v_4 => if v_4 ≤ x3 then (some (1 : Int32)) else (gd (inb x2 8) (gd (inb x1 8) (bd (f_X10_apartOf (M.2 94 (ix x2)) (M.2 94 (ix x1)) x4) fun v_8 => if x3 < v_8 then (some (0 : Int32)) else (some (1 : Int32)))))))
set_option maxHeartbeats 4000000 in
set_option maxRecDepth 100000 in
theorem gb_X10_areKin_67_0  {x1 : Int32} {x2 : Int32} {x3 : Int32} {x4 : Int32} {M : Mm} {v : Int32} (hE : Has shM (eH E)) (C : Cx RX10 cX10_areKin 5 p (rmD 4) s m args meth c E) (hr : meth.sig.returnType = (some .boolean)) (h : bb_X10_areKin_67_0 x1 x2 x3 x4 M = some v) : G p l e (rmD 4) s m args below meth c E 5 0 0 (QR below args s E 0 0 (some (.int v)) M) 0 [(0, .ref (eA E 67)), (1, .int x1), (2, .int x2), (3, .int x3), (4, .int x4)] [] M := by
  unfold bb_X10_areKin_67_0 at h
  refine G.aload_n C 0 dX10_areKin_0 rfl rfl ?_
  refine G.getR (k := 29) C k_X10 (sm_67 hE) rfl (by decide) tg_1460 dX10_areKin_1 ?_
  refine G.iload_n C 1 dX10_areKin_4 rfl rfl ?_
  obtain ⟨hg_1, h⟩ := gd_ex h
  refine G.aJ (j := ix x1) C (sm_94 hE) hg_1 rfl dX10_areKin_5 ?_
  refine G.aload_n C 0 dX10_areKin_6 rfl rfl ?_
  refine G.getR (k := 29) C k_X10 (sm_67 hE) rfl (by decide) tg_1460 dX10_areKin_7 ?_
  refine G.iload_n C 2 dX10_areKin_10 rfl rfl ?_
  obtain ⟨hg_2, h⟩ := gd_ex h
  refine G.aJ (j := ix x2) C (sm_94 hE) hg_2 rfl dX10_areKin_11 ?_
  refine G.iload C 4 dX10_areKin_12 rfl ?_
  obtain ⟨v_4, hv_3, h⟩ := bd_ex h
  refine G.callS (rest := []) C (s_X10_apartOf  hv_3) ⟨tg_1736, tg_103, ok_X10_apartOf, Nat.le_of_ble_eq_true rfl, Nat.le_of_ble_eq_true rfl⟩ tg_1734 tg_1735 rfl (Nat.le_of_ble_eq_true rfl) dX10_areKin_14 ⟨Nat.le_refl 0, Nat.le_refl 0⟩ ?_
  refine G.iload_n C 3 dX10_areKin_17 rfl rfl ?_
  refine G.icmp_le (tgt := 42) C dX10_areKin_18 (by decide) (fun hc => ?_) (fun hc => ?_)
  · have h := it_t h hc
    refine G.iconst (v := (1 : Int32)) C dX10_areKin_42 (by decide) ?_
    refine G.goto (tgt := 47) C dX10_areKin_43 (by decide) ?_
    cases h
    exact G.zret C hr rfl dX10_areKin_47
  · have h := it_f h hc
    refine G.aload_n C 0 dX10_areKin_21 rfl rfl ?_
    refine G.getR (k := 29) C k_X10 (sm_67 hE) rfl (by decide) tg_1460 dX10_areKin_22 ?_
    refine G.iload_n C 2 dX10_areKin_25 rfl rfl ?_
    obtain ⟨hg_5, h⟩ := gd_ex h
    refine G.aJ (j := ix x2) C (sm_94 hE) hg_5 rfl dX10_areKin_26 ?_
    refine G.aload_n C 0 dX10_areKin_27 rfl rfl ?_
    refine G.getR (k := 29) C k_X10 (sm_67 hE) rfl (by decide) tg_1460 dX10_areKin_28 ?_
    refine G.iload_n C 1 dX10_areKin_31 rfl rfl ?_
    obtain ⟨hg_6, h⟩ := gd_ex h
    refine G.aJ (j := ix x1) C (sm_94 hE) hg_6 rfl dX10_areKin_32 ?_
    refine G.iload C 4 dX10_areKin_33 rfl ?_
    obtain ⟨v_8, hv_7, h⟩ := bd_ex h
    refine G.callS (rest := []) C (s_X10_apartOf  hv_7) ⟨tg_1736, tg_103, ok_X10_apartOf, Nat.le_of_ble_eq_true rfl, Nat.le_of_ble_eq_true rfl⟩ tg_1734 tg_1735 rfl (Nat.le_of_ble_eq_true rfl) dX10_areKin_35 ⟨Nat.le_refl 0, Nat.le_refl 0⟩ ?_
    refine G.iload_n C 3 dX10_areKin_38 rfl rfl ?_
    refine G.icmp_gt (tgt := 46) C dX10_areKin_39 (by decide) (fun hc => ?_) (fun hc => ?_)
    · have h := it_t h hc
      refine G.iconst (v := (0 : Int32)) C dX10_areKin_46 (by decide) ?_
      cases h
      exact G.zret C hr rfl dX10_areKin_47
    · have h := it_f h hc
      refine G.iconst (v := (1 : Int32)) C dX10_areKin_42 (by decide) ?_
      refine G.goto (tgt := 47) C dX10_areKin_43 (by decide) ?_
      cases h
      exact G.zret C hr rfl dX10_areKin_47
def f_X10_areKin_67 (x1 : Int32) (x2 : Int32) (x3 : Int32) (x4 : Int32) (M : Mm) : Option Int32 := bb_X10_areKin_67_0 x1 x2 x3 x4 M
theorem s_X10_areKin_67 {l : Launch} {E : Ev} {x1 : Int32} {x2 : Int32} {x3 : Int32} {x4 : Int32} {M : Mm} {v : Int32} (hE : Has shM (eH E)) (h : f_X10_areKin_67 x1 x2 x3 x4 M = some v) : MetA l yX10_areKin cX10_areKin 5 (some .boolean) 4 E [.ref (eA E 67), .int x1, .int x2, .int x3, .int x4] M (some (.int v)) M := by
  refine MetA.of (by decide +kernel) (Nat.le_of_ble_eq_true rfl) ?_
  intro p e s m below meth c C hr hnm
  exact G.sub [0, 1, 2, 3, 4] rfl (gb_X10_areKin_67_0 hE C hr  h)
def bb_X10_kin_67_62 (x1 : Int32) (x2 : Int32) (x3 : Int32) (x4 : Int32) (s1 : Int32) (M : Mm) : Option (Int32 × Mm) := bd2 (f_X10_bad_67 s1 (2 : Int32) M) fun v_13 M_12 => if v_13 = 0 then (bd (f_X10_areKin_67 x1 x2 x3 x4 M_12) fun v_15 => gd (isB v_15) (some (v_15, M_12))) else (some ((0 : Int32), M_12))
set_option maxHeartbeats 4000000 in
set_option maxRecDepth 100000 in
theorem gb_X10_kin_67_62  {x1 : Int32} {x2 : Int32} {x3 : Int32} {x4 : Int32} {s1 : Int32} {M : Mm} {v : Int32} {M' : Mm} (hE : Has shM (eH E)) (C : Cx RX10 cX10_kin 5 p (rmD 5) s m args meth c E) (hr : meth.sig.returnType = (some .boolean)) (h : bb_X10_kin_67_62 x1 x2 x3 x4 s1 M = some (v, M')) : G p l e (rmD 5) s m args below meth c E 5 0 0 (QR below args s E 0 0 (some (.int v)) M') 62 [(0, .ref (eA E 67)), (1, .int x1), (2, .int x2), (3, .int x3), (4, .int x4)] [.int s1, .ref (eA E 67)] M := by
  unfold bb_X10_kin_67_62 at h
  refine G.iconst (v := (2 : Int32)) C dX10_kin_62 (by decide) ?_
  obtain ⟨v_13, M_12, hv_11, h⟩ := bd2_ex h
  refine G.callV (rest := []) C (s_X10_bad_67 hE  hv_11) ⟨tg_1600, tg_103, ok_X10_bad, Nat.le_of_ble_eq_true rfl, Nat.le_of_ble_eq_true rfl⟩ tg_1597 tg_1599 tg_46 (sm_67 hE) rfl rfl (Nat.le_of_ble_eq_true rfl) dX10_kin_63 ⟨Nat.le_refl 0, Nat.le_refl 0⟩ ?_
  refine G.if_eq (tgt := 71) C dX10_kin_66 (by decide) (fun hc => ?_) (fun hc => ?_)
  · have h := it_t h hc
    refine G.aload_n C 0 dX10_kin_71 rfl rfl ?_
    refine G.iload_n C 1 dX10_kin_72 rfl rfl ?_
    refine G.iload_n C 2 dX10_kin_73 rfl rfl ?_
    refine G.iload_n C 3 dX10_kin_74 rfl rfl ?_
    refine G.iload C 4 dX10_kin_75 rfl ?_
    obtain ⟨v_15, hv_14, h⟩ := bd_ex h
    refine G.callV (rest := []) C (s_X10_areKin_67 hE  hv_14) ⟨tg_1933, tg_103, ok_X10_areKin, Nat.le_of_ble_eq_true rfl, Nat.le_of_ble_eq_true rfl⟩ tg_1930 tg_1932 tg_84 (sm_67 hE) rfl rfl (Nat.le_of_ble_eq_true rfl) dX10_kin_77 ⟨Nat.le_refl 0, Nat.le_refl 0⟩ ?_
    obtain ⟨hb_16, h⟩ := gd_ex h
    cases h
    exact G.zret C hr (nz_ok (isB_s hb_16)) dX10_kin_80
  · have h := it_f h hc
    refine G.iconst (v := (0 : Int32)) C dX10_kin_69 (by decide) ?_
    cases h
    exact G.zret C hr rfl dX10_kin_70
def bb_X10_kin_67_39 (x1 : Int32) (x2 : Int32) (x3 : Int32) (x4 : Int32) (s1 : Int32) (M : Mm) : Option (Int32 × Mm) := bd2 (f_X10_bad_67 s1 (1 : Int32) M) fun v_8 M_7 => if v_8 = 0 then (bd (f_X10_in x3 (0 : Int32) (64 : Int32)) fun v_10 => if v_10 = 0 then (bb_X10_kin_67_62 x1 x2 x3 x4 (1 : Int32) M_7) else (bb_X10_kin_67_62 x1 x2 x3 x4 (0 : Int32) M_7)) else (some ((0 : Int32), M_7))
set_option maxHeartbeats 4000000 in
set_option maxRecDepth 100000 in
theorem gb_X10_kin_67_39  {x1 : Int32} {x2 : Int32} {x3 : Int32} {x4 : Int32} {s1 : Int32} {M : Mm} {v : Int32} {M' : Mm} (hE : Has shM (eH E)) (C : Cx RX10 cX10_kin 5 p (rmD 5) s m args meth c E) (hr : meth.sig.returnType = (some .boolean)) (h : bb_X10_kin_67_39 x1 x2 x3 x4 s1 M = some (v, M')) : G p l e (rmD 5) s m args below meth c E 5 0 0 (QR below args s E 0 0 (some (.int v)) M') 39 [(0, .ref (eA E 67)), (1, .int x1), (2, .int x2), (3, .int x3), (4, .int x4)] [.int s1, .ref (eA E 67)] M := by
  unfold bb_X10_kin_67_39 at h
  refine G.iconst (v := (1 : Int32)) C dX10_kin_39 (by decide) ?_
  obtain ⟨v_8, M_7, hv_6, h⟩ := bd2_ex h
  refine G.callV (rest := []) C (s_X10_bad_67 hE  hv_6) ⟨tg_1600, tg_103, ok_X10_bad, Nat.le_of_ble_eq_true rfl, Nat.le_of_ble_eq_true rfl⟩ tg_1597 tg_1599 tg_46 (sm_67 hE) rfl rfl (Nat.le_of_ble_eq_true rfl) dX10_kin_40 ⟨Nat.le_refl 0, Nat.le_refl 0⟩ ?_
  refine G.if_ne (tgt := 69) C dX10_kin_43 (by decide) (fun hc => ?_) (fun hc => ?_)
  · have h := it_f h hc
    refine G.iconst (v := (0 : Int32)) C dX10_kin_69 (by decide) ?_
    cases h
    exact G.zret C hr rfl dX10_kin_70
  · have h := it_t h hc
    refine G.aload_n C 0 dX10_kin_46 rfl rfl ?_
    refine G.iload_n C 3 dX10_kin_47 rfl rfl ?_
    refine G.iconst (v := (0 : Int32)) C dX10_kin_48 (by decide) ?_
    refine G.bipush (v := (64 : Int32)) C dX10_kin_49 (by decide) ?_
    obtain ⟨v_10, hv_9, h⟩ := bd_ex h
    refine G.callS (rest := [.ref (eA E 67)]) C (s_X10_in  hv_9) ⟨tg_1596, tg_103, ok_X10_in, Nat.le_of_ble_eq_true rfl, Nat.le_of_ble_eq_true rfl⟩ tg_1594 tg_1595 rfl (Nat.le_of_ble_eq_true rfl) dX10_kin_51 ⟨Nat.le_refl 0, Nat.le_refl 0⟩ ?_
    refine G.if_ne (tgt := 61) C dX10_kin_54 (by decide) (fun hc => ?_) (fun hc => ?_)
    · have h := it_f h hc
      refine G.iconst (v := (0 : Int32)) C dX10_kin_61 (by decide) ?_
      exact G.sub [0, 1, 2, 3, 4] rfl (gb_X10_kin_67_62 hE C hr  h)
    · have h := it_t h hc
      refine G.iconst (v := (1 : Int32)) C dX10_kin_57 (by decide) ?_
      refine G.goto (tgt := 62) C dX10_kin_58 (by decide) ?_
      exact G.sub [0, 1, 2, 3, 4] rfl (gb_X10_kin_67_62 hE C hr  h)
def bb_X10_kin_67_34 (x1 : Int32) (x2 : Int32) (x3 : Int32) (x4 : Int32) (M : Mm) : Option (Int32 × Mm) := bb_X10_kin_67_39 x1 x2 x3 x4 (1 : Int32) M
set_option maxHeartbeats 4000000 in
set_option maxRecDepth 100000 in
theorem gb_X10_kin_67_34  {x1 : Int32} {x2 : Int32} {x3 : Int32} {x4 : Int32} {M : Mm} {v : Int32} {M' : Mm} (hE : Has shM (eH E)) (C : Cx RX10 cX10_kin 5 p (rmD 5) s m args meth c E) (hr : meth.sig.returnType = (some .boolean)) (h : bb_X10_kin_67_34 x1 x2 x3 x4 M = some (v, M')) : G p l e (rmD 5) s m args below meth c E 5 0 0 (QR below args s E 0 0 (some (.int v)) M') 34 [(0, .ref (eA E 67)), (1, .int x1), (2, .int x2), (3, .int x3), (4, .int x4)] [.ref (eA E 67)] M := by
  unfold bb_X10_kin_67_34 at h
  refine G.iconst (v := (1 : Int32)) C dX10_kin_34 (by decide) ?_
  refine G.goto (tgt := 39) C dX10_kin_35 (by decide) ?_
  exact G.sub [0, 1, 2, 3, 4] rfl (gb_X10_kin_67_39 hE C hr  h)
def bb_X10_kin_67_0 (x1 : Int32) (x2 : Int32) (x3 : Int32) (x4 : Int32) (M : Mm) : Option (Int32 × Mm) := ltv (wI M 67 0 (0 : Int32)) fun M_1 => bd (f_X10_in x1 (0 : Int32) ((M_1.1 67 26) - (1 : Int32))) fun v_3 => if v_3 = 0 then (bb_X10_kin_67_34 x1 x2 x3 x4 M_1) else (bd (f_X10_in x2 (0 : Int32) ((M_1.1 67 26) - (1 : Int32))) fun v_5 => if v_5 = 0 then (bb_X10_kin_67_34 x1 x2 x3 x4 M_1) else (bb_X10_kin_67_39 x1 x2 x3 x4 (0 : Int32) M_1))
set_option maxHeartbeats 4000000 in
set_option maxRecDepth 100000 in
theorem gb_X10_kin_67_0  {x1 : Int32} {x2 : Int32} {x3 : Int32} {x4 : Int32} {M : Mm} {v : Int32} {M' : Mm} (hE : Has shM (eH E)) (C : Cx RX10 cX10_kin 5 p (rmD 5) s m args meth c E) (hr : meth.sig.returnType = (some .boolean)) (h : bb_X10_kin_67_0 x1 x2 x3 x4 M = some (v, M')) : G p l e (rmD 5) s m args below meth c E 5 0 0 (QR below args s E 0 0 (some (.int v)) M') 0 [(0, .ref (eA E 67)), (1, .int x1), (2, .int x2), (3, .int x3), (4, .int x4)] [] M := by
  unfold bb_X10_kin_67_0 at h
  refine G.aload_n C 0 dX10_kin_0 rfl rfl ?_
  refine G.iconst (v := (0 : Int32)) C dX10_kin_1 (by decide) ?_
  obtain ⟨M_1, eM_1, h⟩ := ltv_ex h
  refine G.putI (k := 0) C k_X10 (sm_67 hE) rfl (by decide) tg_1431 rfl rfl dX10_kin_2 eM_1 ?_
  refine G.aload_n C 0 dX10_kin_5 rfl rfl ?_
  refine G.iload_n C 1 dX10_kin_6 rfl rfl ?_
  refine G.iconst (v := (0 : Int32)) C dX10_kin_7 (by decide) ?_
  refine G.aload_n C 0 dX10_kin_8 rfl rfl ?_
  refine G.getI (k := 26) C k_X10 (sm_67 hE) rfl (by decide) tg_1457 dX10_kin_9 ?_
  refine G.iconst (v := (1 : Int32)) C dX10_kin_12 (by decide) ?_
  refine G.isub C dX10_kin_13 ?_
  obtain ⟨v_3, hv_2, h⟩ := bd_ex h
  refine G.callS (rest := [.ref (eA E 67)]) C (s_X10_in  hv_2) ⟨tg_1596, tg_103, ok_X10_in, Nat.le_of_ble_eq_true rfl, Nat.le_of_ble_eq_true rfl⟩ tg_1594 tg_1595 rfl (Nat.le_of_ble_eq_true rfl) dX10_kin_14 ⟨Nat.le_refl 0, Nat.le_refl 0⟩ ?_
  refine G.if_eq (tgt := 34) C dX10_kin_17 (by decide) (fun hc => ?_) (fun hc => ?_)
  · have h := it_t h hc
    exact G.sub [0, 1, 2, 3, 4] rfl (gb_X10_kin_67_34 hE C hr  h)
  · have h := it_f h hc
    refine G.iload_n C 2 dX10_kin_20 rfl rfl ?_
    refine G.iconst (v := (0 : Int32)) C dX10_kin_21 (by decide) ?_
    refine G.aload_n C 0 dX10_kin_22 rfl rfl ?_
    refine G.getI (k := 26) C k_X10 (sm_67 hE) rfl (by decide) tg_1457 dX10_kin_23 ?_
    refine G.iconst (v := (1 : Int32)) C dX10_kin_26 (by decide) ?_
    refine G.isub C dX10_kin_27 ?_
    obtain ⟨v_5, hv_4, h⟩ := bd_ex h
    refine G.callS (rest := [.ref (eA E 67)]) C (s_X10_in  hv_4) ⟨tg_1596, tg_103, ok_X10_in, Nat.le_of_ble_eq_true rfl, Nat.le_of_ble_eq_true rfl⟩ tg_1594 tg_1595 rfl (Nat.le_of_ble_eq_true rfl) dX10_kin_28 ⟨Nat.le_refl 0, Nat.le_refl 0⟩ ?_
    refine G.if_ne (tgt := 38) C dX10_kin_31 (by decide) (fun hc => ?_) (fun hc => ?_)
    · have h := it_f h hc
      refine G.iconst (v := (0 : Int32)) C dX10_kin_38 (by decide) ?_
      exact G.sub [0, 1, 2, 3, 4] rfl (gb_X10_kin_67_39 hE C hr  h)
    · have h := it_t h hc
      exact G.sub [0, 1, 2, 3, 4] rfl (gb_X10_kin_67_34 hE C hr  h)
def f_X10_kin_67 (x1 : Int32) (x2 : Int32) (x3 : Int32) (x4 : Int32) (M : Mm) : Option (Int32 × Mm) := bb_X10_kin_67_0 x1 x2 x3 x4 M
theorem s_X10_kin_67 {l : Launch} {E : Ev} {x1 : Int32} {x2 : Int32} {x3 : Int32} {x4 : Int32} {M : Mm} {v : Int32} {M' : Mm} (hE : Has shM (eH E)) (h : f_X10_kin_67 x1 x2 x3 x4 M = some (v, M')) : MetA l yX10_kin cX10_kin 5 (some .boolean) 5 E [.ref (eA E 67), .int x1, .int x2, .int x3, .int x4] M (some (.int v)) M' := by
  refine MetA.of (by decide +kernel) (Nat.le_of_ble_eq_true rfl) ?_
  intro p e s m below meth c C hr hnm
  exact G.sub [0, 1, 2, 3, 4] rfl (gb_X10_kin_67_0 hE C hr  h)
def bb_X10_parts_67_59 (rc : Int32 → Int32 → Mm → Option Mm) (k_48 : Int32 → Mm → Option Mm) (k_59 : Int32 → Int32 → Mm → Option Mm) (x3 : Int32) (x4 : Int32) (M : Mm) : Option Mm := if (M.1 67 26) ≤ x4 then (ltv (x3 + (1 : Int32)) fun x3_12 => k_48 x3_12 M) else (if x3 = x4 then (ltv (x4 + (1 : Int32)) fun x4_13 => k_59 x3 x4_13 M) else (gd (inb x3 8) (gd (inb x4 8) (if (M.1 107 (ix x3)) = (M.1 107 (ix x4)) then (ltv (wI M 67 45 ((M.1 67 45) &&& ((shI (1 : Int32) x3) ^^^ (-1 : Int32)))) fun M_17 => ltv (x4 + (1 : Int32)) fun x4_18 => k_59 x3 x4_18 M_17) else (ltv (x4 + (1 : Int32)) fun x4_16 => k_59 x3 x4_16 M)))))
set_option maxHeartbeats 4000000 in
set_option maxRecDepth 100000 in
theorem gb_X10_parts_67_59 {dd : Nat}  {rc : Int32 → Int32 → Mm → Option Mm} {k_48 : Int32 → Mm → Option Mm} {k_59 : Int32 → Int32 → Mm → Option Mm} {x3 : Int32} {x4 : Int32} {M : Mm} {M' : Mm} (hE : Has shM (eH E)) (C : Cx RX10 cX10_parts 6 p (rmD (1 + dd)) s m args meth c E) (hr : meth.sig.returnType = none) (hrc : ∀ (x1 : Int32) (x2 : Int32) (M : Mm) (M' : Mm), rc x1 x2 M = some M' → MetA l yX10_parts cX10_parts 6 none (0 + dd) E [.ref (eA E 67), .int x1, .int x2] M none M') (hk_48 : ∀ (x3 : Int32) (M : Mm), k_48 x3 M = some M' → G p l e (rmD (1 + dd)) s m args below meth c E 6 0 0 (QR below args s E 0 0 none M') 48 [(0, .ref (eA E 67)), (3, .int x3)] [] M) (hk_59 : ∀ (x3 : Int32) (x4 : Int32) (M : Mm), k_59 x3 x4 M = some M' → G p l e (rmD (1 + dd)) s m args below meth c E 6 0 0 (QR below args s E 0 0 none M') 59 [(0, .ref (eA E 67)), (3, .int x3), (4, .int x4)] [] M) (h : bb_X10_parts_67_59 rc k_48 k_59 x3 x4 M = some M') : G p l e (rmD (1 + dd)) s m args below meth c E 6 0 0 (QR below args s E 0 0 none M') 59 [(0, .ref (eA E 67)), (3, .int x3), (4, .int x4)] [] M := by
  unfold bb_X10_parts_67_59 at h
  refine G.iload C 2 dX10_parts_59 rfl ?_
  refine G.aload_n C 0 dX10_parts_61 rfl rfl ?_
  refine G.getI (k := 26) C k_X10 (sm_67 hE) rfl (by decide) tg_1457 dX10_parts_62 ?_
  refine G.icmp_ge (tgt := 110) C dX10_parts_65 (by decide) (fun hc => ?_) (fun hc => ?_)
  · have h := it_t h hc
    obtain ⟨x3_12, ex3_12, h⟩ := ltv_ex h
    refine G.iinc (L' := [(3, .int x3_12), (0, .ref (eA E 67)), (4, .int x4)]) C 1 dX10_parts_110 rfl (ex3_12.trans rfl) (by decide) rfl ?_
    refine G.goto (tgt := 48) C dX10_parts_113 (by decide) ?_
    exact G.sub [1, 0] rfl (hk_48 _ _  h)
  · have h := it_f h hc
    refine G.iload_n C 1 dX10_parts_68 rfl rfl ?_
    refine G.iload C 2 dX10_parts_69 rfl ?_
    refine G.icmp_eq (tgt := 104) C dX10_parts_71 (by decide) (fun hc => ?_) (fun hc => ?_)
    · have h := it_t h hc
      obtain ⟨x4_13, ex4_13, h⟩ := ltv_ex h
      refine G.iinc (L' := [(4, .int x4_13), (0, .ref (eA E 67)), (3, .int x3)]) C 2 dX10_parts_104 rfl (ex4_13.trans rfl) (by decide) rfl ?_
      refine G.goto (tgt := 59) C dX10_parts_107 (by decide) ?_
      exact G.sub [1, 2, 0] rfl (hk_59 _ _ _  h)
    · have h := it_f h hc
      refine G.aload_n C 0 dX10_parts_74 rfl rfl ?_
      refine G.getR (k := 42) C k_X10 (sm_67 hE) rfl (by decide) tg_1473 dX10_parts_75 ?_
      refine G.iload_n C 1 dX10_parts_78 rfl rfl ?_
      obtain ⟨hg_14, h⟩ := gd_ex h
      refine G.aI (j := ix x3) C (sm_107 hE) hg_14 rfl dX10_parts_79 ?_
      refine G.aload_n C 0 dX10_parts_80 rfl rfl ?_
      refine G.getR (k := 42) C k_X10 (sm_67 hE) rfl (by decide) tg_1473 dX10_parts_81 ?_
      refine G.iload C 2 dX10_parts_84 rfl ?_
      obtain ⟨hg_15, h⟩ := gd_ex h
      refine G.aI (j := ix x4) C (sm_107 hE) hg_15 rfl dX10_parts_86 ?_
      refine G.icmp_ne (tgt := 104) C dX10_parts_87 (by decide) (fun hc => ?_) (fun hc => ?_)
      · have h := it_f h hc
        obtain ⟨x4_16, ex4_16, h⟩ := ltv_ex h
        refine G.iinc (L' := [(4, .int x4_16), (0, .ref (eA E 67)), (3, .int x3)]) C 2 dX10_parts_104 rfl (ex4_16.trans rfl) (by decide) rfl ?_
        refine G.goto (tgt := 59) C dX10_parts_107 (by decide) ?_
        exact G.sub [1, 2, 0] rfl (hk_59 _ _ _  h)
      · have h := it_t h hc
        refine G.aload_n C 0 dX10_parts_90 rfl rfl ?_
        refine G.dup C dX10_parts_91 rfl ?_
        refine G.getI (k := 45) C k_X10 (sm_67 hE) rfl (by decide) tg_1476 dX10_parts_92 ?_
        refine G.iconst (v := (1 : Int32)) C dX10_parts_95 (by decide) ?_
        refine G.iload_n C 1 dX10_parts_96 rfl rfl ?_
        refine G.isl C dX10_parts_97 ?_
        refine G.iconst (v := (-1 : Int32)) C dX10_parts_98 (by decide) ?_
        refine G.ixor C dX10_parts_99 ?_
        refine G.iand C dX10_parts_100 ?_
        obtain ⟨M_17, eM_17, h⟩ := ltv_ex h
        refine G.putI (k := 45) C k_X10 (sm_67 hE) rfl (by decide) tg_1476 rfl rfl dX10_parts_101 eM_17 ?_
        obtain ⟨x4_18, ex4_18, h⟩ := ltv_ex h
        refine G.iinc (L' := [(4, .int x4_18), (0, .ref (eA E 67)), (3, .int x3)]) C 2 dX10_parts_104 rfl (ex4_18.trans rfl) (by decide) rfl ?_
        refine G.goto (tgt := 59) C dX10_parts_107 (by decide) ?_
        exact G.sub [1, 2, 0] rfl (hk_59 _ _ _  h)
def b_X10_parts_67_59 (rc : Int32 → Int32 → Mm → Option Mm) (k_48 : Int32 → Mm → Option Mm) : Nat → Int32 → Int32 → Mm → Option Mm
  | 0, _, _, _ => none
  | n + 1, x3, x4, M => bb_X10_parts_67_59 rc k_48 (b_X10_parts_67_59 rc k_48 n) x3 x4 M
set_option maxHeartbeats 4000000 in
theorem g_X10_parts_67_59 {dd : Nat}  {rc : Int32 → Int32 → Mm → Option Mm} {k_48 : Int32 → Mm → Option Mm} {n : Nat} {x3 : Int32} {x4 : Int32} {M : Mm} {M' : Mm} (hE : Has shM (eH E)) (C : Cx RX10 cX10_parts 6 p (rmD (1 + dd)) s m args meth c E) (hr : meth.sig.returnType = none) (hrc : ∀ (x1 : Int32) (x2 : Int32) (M : Mm) (M' : Mm), rc x1 x2 M = some M' → MetA l yX10_parts cX10_parts 6 none (0 + dd) E [.ref (eA E 67), .int x1, .int x2] M none M') (hk_48 : ∀ (x3 : Int32) (M : Mm), k_48 x3 M = some M' → G p l e (rmD (1 + dd)) s m args below meth c E 6 0 0 (QR below args s E 0 0 none M') 48 [(0, .ref (eA E 67)), (3, .int x3)] [] M) (h : b_X10_parts_67_59 rc k_48 n x3 x4 M = some M') : G p l e (rmD (1 + dd)) s m args below meth c E 6 0 0 (QR below args s E 0 0 none M') 59 [(0, .ref (eA E 67)), (3, .int x3), (4, .int x4)] [] M := by
  induction n generalizing x3 x4 M with
  | zero => cases h
  | succ n ih => exact gb_X10_parts_67_59 hE C hr hrc hk_48 (fun _ _ _ => ih)  h
def bb_X10_parts_67_48 (rc : Int32 → Int32 → Mm → Option Mm) (k_48 : Int32 → Mm → Option Mm) (x3 : Int32) (M : Mm) : Option Mm := if (M.1 67 26) ≤ x3 then (some M) else (b_X10_parts_67_59 rc k_48 FU x3 (0 : Int32) M)
set_option maxHeartbeats 4000000 in
set_option maxRecDepth 100000 in
theorem gb_X10_parts_67_48 {dd : Nat}  {rc : Int32 → Int32 → Mm → Option Mm} {k_48 : Int32 → Mm → Option Mm} {x3 : Int32} {M : Mm} {M' : Mm} (hE : Has shM (eH E)) (C : Cx RX10 cX10_parts 6 p (rmD (1 + dd)) s m args meth c E) (hr : meth.sig.returnType = none) (hrc : ∀ (x1 : Int32) (x2 : Int32) (M : Mm) (M' : Mm), rc x1 x2 M = some M' → MetA l yX10_parts cX10_parts 6 none (0 + dd) E [.ref (eA E 67), .int x1, .int x2] M none M') (hk_48 : ∀ (x3 : Int32) (M : Mm), k_48 x3 M = some M' → G p l e (rmD (1 + dd)) s m args below meth c E 6 0 0 (QR below args s E 0 0 none M') 48 [(0, .ref (eA E 67)), (3, .int x3)] [] M) (h : bb_X10_parts_67_48 rc k_48 x3 M = some M') : G p l e (rmD (1 + dd)) s m args below meth c E 6 0 0 (QR below args s E 0 0 none M') 48 [(0, .ref (eA E 67)), (3, .int x3)] [] M := by
  unfold bb_X10_parts_67_48 at h
  refine G.iload_n C 1 dX10_parts_48 rfl rfl ?_
  refine G.aload_n C 0 dX10_parts_49 rfl rfl ?_
  refine G.getI (k := 26) C k_X10 (sm_67 hE) rfl (by decide) tg_1457 dX10_parts_50 ?_
  refine G.icmp_ge (tgt := 116) C dX10_parts_53 (by decide) (fun hc => ?_) (fun hc => ?_)
  · have h := it_t h hc
    cases h
    exact G.vret C hr dX10_parts_116
  · have h := it_f h hc
    refine G.iconst (v := (0 : Int32)) C dX10_parts_56 (by decide) ?_
    refine G.istore (L' := [(4, .int (0 : Int32)), (0, .ref (eA E 67)), (3, .int x3)]) C dX10_parts_57 rfl (by decide) rfl ?_
    exact G.sub [1, 2, 0] rfl (g_X10_parts_67_59 hE C hr hrc hk_48  h)
def b_X10_parts_67_48 (rc : Int32 → Int32 → Mm → Option Mm) : Nat → Int32 → Mm → Option Mm
  | 0, _, _ => none
  | n + 1, x3, M => bb_X10_parts_67_48 rc (b_X10_parts_67_48 rc n) x3 M
set_option maxHeartbeats 4000000 in
theorem g_X10_parts_67_48 {dd : Nat}  {rc : Int32 → Int32 → Mm → Option Mm} {n : Nat} {x3 : Int32} {M : Mm} {M' : Mm} (hE : Has shM (eH E)) (C : Cx RX10 cX10_parts 6 p (rmD (1 + dd)) s m args meth c E) (hr : meth.sig.returnType = none) (hrc : ∀ (x1 : Int32) (x2 : Int32) (M : Mm) (M' : Mm), rc x1 x2 M = some M' → MetA l yX10_parts cX10_parts 6 none (0 + dd) E [.ref (eA E 67), .int x1, .int x2] M none M') (h : b_X10_parts_67_48 rc n x3 M = some M') : G p l e (rmD (1 + dd)) s m args below meth c E 6 0 0 (QR below args s E 0 0 none M') 48 [(0, .ref (eA E 67)), (3, .int x3)] [] M := by
  induction n generalizing x3 M with
  | zero => cases h
  | succ n ih => exact gb_X10_parts_67_48 hE C hr hrc (fun _ _ => ih)  h
def bb_X10_parts_67_177 (rc : Int32 → Int32 → Mm → Option Mm) (k_119 : Int32 → Int32 → Int32 → Mm → Option Mm) (x1 : Int32) (x2 : Int32) (x3 : Int32) (x4 : Int32) (M : Mm) : Option Mm := if x4 = 0 then (ltv (x3 + (1 : Int32)) fun x3_27 => k_119 x1 x2 x3_27 M) else (gd (inb x1 8) (ltv (wI M 107 (ix x1) x3) fun M_20 => if x3 = x2 then (bd (rc (x1 + (1 : Int32)) (x2 + (1 : Int32)) M_20) fun M_25 => ltv (x3 + (1 : Int32)) fun x3_26 => k_119 x1 x2 x3_26 M_25) else (bd (rc (x1 + (1 : Int32)) x2 M_20) fun M_22 => ltv (x3 + (1 : Int32)) fun x3_23 => k_119 x1 x2 x3_23 M_22)))
set_option maxHeartbeats 4000000 in
set_option maxRecDepth 100000 in
theorem gb_X10_parts_67_177 {dd : Nat}  {rc : Int32 → Int32 → Mm → Option Mm} {k_119 : Int32 → Int32 → Int32 → Mm → Option Mm} {x1 : Int32} {x2 : Int32} {x3 : Int32} {x4 : Int32} {M : Mm} {M' : Mm} (hE : Has shM (eH E)) (C : Cx RX10 cX10_parts 6 p (rmD (1 + dd)) s m args meth c E) (hr : meth.sig.returnType = none) (hrc : ∀ (x1 : Int32) (x2 : Int32) (M : Mm) (M' : Mm), rc x1 x2 M = some M' → MetA l yX10_parts cX10_parts 6 none (0 + dd) E [.ref (eA E 67), .int x1, .int x2] M none M') (hk_119 : ∀ (x1 : Int32) (x2 : Int32) (x3 : Int32) (M : Mm), k_119 x1 x2 x3 M = some M' → G p l e (rmD (1 + dd)) s m args below meth c E 6 0 0 (QR below args s E 0 0 none M') 119 [(0, .ref (eA E 67)), (1, .int x1), (2, .int x2), (3, .int x3)] [] M) (h : bb_X10_parts_67_177 rc k_119 x1 x2 x3 x4 M = some M') : G p l e (rmD (1 + dd)) s m args below meth c E 6 0 0 (QR below args s E 0 0 none M') 177 [(0, .ref (eA E 67)), (1, .int x1), (2, .int x2), (3, .int x3), (4, .int x4)] [] M := by
  unfold bb_X10_parts_67_177 at h
  refine G.iload C 4 dX10_parts_177 rfl ?_
  refine G.if_ne (tgt := 185) C dX10_parts_179 (by decide) (fun hc => ?_) (fun hc => ?_)
  · have h := it_f h hc
    refine G.aload_n C 0 dX10_parts_185 rfl rfl ?_
    refine G.getR (k := 42) C k_X10 (sm_67 hE) rfl (by decide) tg_1473 dX10_parts_186 ?_
    refine G.iload_n C 1 dX10_parts_189 rfl rfl ?_
    refine G.iload_n C 3 dX10_parts_190 rfl rfl ?_
    obtain ⟨hg_19, h⟩ := gd_ex h
    obtain ⟨M_20, eM_20, h⟩ := ltv_ex h
    refine G.sI (j := (ix x1)) C (sm_107 hE) hg_19 rfl dX10_parts_191 eM_20 ?_
    refine G.aload_n C 0 dX10_parts_192 rfl rfl ?_
    refine G.iload_n C 1 dX10_parts_193 rfl rfl ?_
    refine G.iconst (v := (1 : Int32)) C dX10_parts_194 (by decide) ?_
    refine G.iadd C dX10_parts_195 ?_
    refine G.iload_n C 3 dX10_parts_196 rfl rfl ?_
    refine G.iload_n C 2 dX10_parts_197 rfl rfl ?_
    refine G.icmp_ne (tgt := 207) C dX10_parts_198 (by decide) (fun hc => ?_) (fun hc => ?_)
    · have h := it_f h hc
      refine G.iload_n C 2 dX10_parts_207 rfl rfl ?_
      obtain ⟨M_22, hv_21, h⟩ := bd_ex h
      refine G.callV (rest := []) C (hrc _ _ _ _  hv_21) ⟨tg_1941, tg_103, ok_X10_parts, (show 0 + dd + 1 ≤ 1 + dd by omega), (show 8 + (6 + 11) + 64 * (0 + dd) ≤ 64 * (1 + dd) by omega)⟩ tg_1938 tg_1940 tg_85 (sm_67 hE) rfl rfl (Nat.le_of_ble_eq_true rfl) dX10_parts_208 ⟨Nat.le_refl 0, Nat.le_refl 0⟩ ?_
      obtain ⟨x3_23, ex3_23, h⟩ := ltv_ex h
      refine G.iinc (L' := [(3, .int x3_23), (0, .ref (eA E 67)), (1, .int x1), (2, .int x2), (4, .int x4)]) C 3 dX10_parts_211 rfl (ex3_23.trans rfl) (by decide) rfl ?_
      refine G.goto (tgt := 119) C dX10_parts_214 (by decide) ?_
      exact G.sub [1, 2, 3, 0] rfl (hk_119 _ _ _ _  h)
    · have h := it_t h hc
      refine G.iload_n C 2 dX10_parts_201 rfl rfl ?_
      refine G.iconst (v := (1 : Int32)) C dX10_parts_202 (by decide) ?_
      refine G.iadd C dX10_parts_203 ?_
      refine G.goto (tgt := 208) C dX10_parts_204 (by decide) ?_
      obtain ⟨M_25, hv_24, h⟩ := bd_ex h
      refine G.callV (rest := []) C (hrc _ _ _ _  hv_24) ⟨tg_1941, tg_103, ok_X10_parts, (show 0 + dd + 1 ≤ 1 + dd by omega), (show 8 + (6 + 11) + 64 * (0 + dd) ≤ 64 * (1 + dd) by omega)⟩ tg_1938 tg_1940 tg_85 (sm_67 hE) rfl rfl (Nat.le_of_ble_eq_true rfl) dX10_parts_208 ⟨Nat.le_refl 0, Nat.le_refl 0⟩ ?_
      obtain ⟨x3_26, ex3_26, h⟩ := ltv_ex h
      refine G.iinc (L' := [(3, .int x3_26), (0, .ref (eA E 67)), (1, .int x1), (2, .int x2), (4, .int x4)]) C 3 dX10_parts_211 rfl (ex3_26.trans rfl) (by decide) rfl ?_
      refine G.goto (tgt := 119) C dX10_parts_214 (by decide) ?_
      exact G.sub [1, 2, 3, 0] rfl (hk_119 _ _ _ _  h)
  · have h := it_t h hc
    refine G.goto (tgt := 211) C dX10_parts_182 (by decide) ?_
    obtain ⟨x3_27, ex3_27, h⟩ := ltv_ex h
    refine G.iinc (L' := [(3, .int x3_27), (0, .ref (eA E 67)), (1, .int x1), (2, .int x2), (4, .int x4)]) C 3 dX10_parts_211 rfl (ex3_27.trans rfl) (by decide) rfl ?_
    refine G.goto (tgt := 119) C dX10_parts_214 (by decide) ?_
    exact G.sub [1, 2, 3, 0] rfl (hk_119 _ _ _ _  h)
def bb_X10_parts_67_130 (rc : Int32 → Int32 → Mm → Option Mm) (k_119 : Int32 → Int32 → Int32 → Mm → Option Mm) (k_130 : Int32 → Int32 → Int32 → Int32 → Int32 → Mm → Option Mm) (x1 : Int32) (x2 : Int32) (x3 : Int32) (x4 : Int32) (x5 : Int32) (M : Mm) : Option Mm := if x1 ≤ x5 then (bb_X10_parts_67_177 rc k_119 x1 x2 x3 x4 M) else (if x4 = 0 then (bb_X10_parts_67_177 rc k_119 x1 x2 x3 x4 M) else (gd (inb x5 8) (if (M.1 107 (ix x5)) = x3 then (gd (inb x1 8) (gd (inb x5 8) (if (M.1 (112 + ix x1) (ix x5)) = 0 then (ltv (x5 + (1 : Int32)) fun x5_10 => k_130 x1 x2 x3 (0 : Int32) x5_10 M) else (ltv (x5 + (1 : Int32)) fun x5_11 => k_130 x1 x2 x3 (1 : Int32) x5_11 M)))) else (ltv (x5 + (1 : Int32)) fun x5_6 => k_130 x1 x2 x3 (1 : Int32) x5_6 M))))
set_option maxHeartbeats 4000000 in
set_option maxRecDepth 100000 in
theorem gb_X10_parts_67_130 {dd : Nat}  {rc : Int32 → Int32 → Mm → Option Mm} {k_119 : Int32 → Int32 → Int32 → Mm → Option Mm} {k_130 : Int32 → Int32 → Int32 → Int32 → Int32 → Mm → Option Mm} {x1 : Int32} {x2 : Int32} {x3 : Int32} {x4 : Int32} {x5 : Int32} {M : Mm} {M' : Mm} (hE : Has shM (eH E)) (C : Cx RX10 cX10_parts 6 p (rmD (1 + dd)) s m args meth c E) (hr : meth.sig.returnType = none) (hrc : ∀ (x1 : Int32) (x2 : Int32) (M : Mm) (M' : Mm), rc x1 x2 M = some M' → MetA l yX10_parts cX10_parts 6 none (0 + dd) E [.ref (eA E 67), .int x1, .int x2] M none M') (hk_119 : ∀ (x1 : Int32) (x2 : Int32) (x3 : Int32) (M : Mm), k_119 x1 x2 x3 M = some M' → G p l e (rmD (1 + dd)) s m args below meth c E 6 0 0 (QR below args s E 0 0 none M') 119 [(0, .ref (eA E 67)), (1, .int x1), (2, .int x2), (3, .int x3)] [] M) (hk_130 : ∀ (x1 : Int32) (x2 : Int32) (x3 : Int32) (x4 : Int32) (x5 : Int32) (M : Mm), k_130 x1 x2 x3 x4 x5 M = some M' → G p l e (rmD (1 + dd)) s m args below meth c E 6 0 0 (QR below args s E 0 0 none M') 130 [(0, .ref (eA E 67)), (1, .int x1), (2, .int x2), (3, .int x3), (4, .int x4), (5, .int x5)] [] M) (h : bb_X10_parts_67_130 rc k_119 k_130 x1 x2 x3 x4 x5 M = some M') : G p l e (rmD (1 + dd)) s m args below meth c E 6 0 0 (QR below args s E 0 0 none M') 130 [(0, .ref (eA E 67)), (1, .int x1), (2, .int x2), (3, .int x3), (4, .int x4), (5, .int x5)] [] M := by
  unfold bb_X10_parts_67_130 at h
  refine G.iload C 5 dX10_parts_130 rfl ?_
  refine G.iload_n C 1 dX10_parts_132 rfl rfl ?_
  refine G.icmp_ge (tgt := 177) C dX10_parts_133 (by decide) (fun hc => ?_) (fun hc => ?_)
  · have h := it_t h hc
    exact G.sub [0, 1, 2, 3, 4] rfl (gb_X10_parts_67_177 hE C hr hrc hk_119  h)
  · have h := it_f h hc
    refine G.iload C 4 dX10_parts_136 rfl ?_
    refine G.if_eq (tgt := 177) C dX10_parts_138 (by decide) (fun hc => ?_) (fun hc => ?_)
    · have h := it_t h hc
      exact G.sub [0, 1, 2, 3, 4] rfl (gb_X10_parts_67_177 hE C hr hrc hk_119  h)
    · have h := it_f h hc
      refine G.aload_n C 0 dX10_parts_141 rfl rfl ?_
      refine G.getR (k := 42) C k_X10 (sm_67 hE) rfl (by decide) tg_1473 dX10_parts_142 ?_
      refine G.iload C 5 dX10_parts_145 rfl ?_
      obtain ⟨hg_5, h⟩ := gd_ex h
      refine G.aI (j := ix x5) C (sm_107 hE) hg_5 rfl dX10_parts_147 ?_
      refine G.iload_n C 3 dX10_parts_148 rfl rfl ?_
      refine G.icmp_ne (tgt := 164) C dX10_parts_149 (by decide) (fun hc => ?_) (fun hc => ?_)
      · have h := it_f h hc
        refine G.iconst (v := (1 : Int32)) C dX10_parts_164 (by decide) ?_
        refine G.goto (tgt := 169) C dX10_parts_165 (by decide) ?_
        refine G.istore (L' := [(4, .int (1 : Int32)), (0, .ref (eA E 67)), (1, .int x1), (2, .int x2), (3, .int x3), (5, .int x5)]) C dX10_parts_169 rfl (by decide) rfl ?_
        obtain ⟨x5_6, ex5_6, h⟩ := ltv_ex h
        refine G.iinc (L' := [(5, .int x5_6), (4, .int (1 : Int32)), (0, .ref (eA E 67)), (1, .int x1), (2, .int x2), (3, .int x3)]) C 5 dX10_parts_171 rfl (ex5_6.trans rfl) (by decide) rfl ?_
        refine G.goto (tgt := 130) C dX10_parts_174 (by decide) ?_
        exact G.sub [2, 3, 4, 5, 1, 0] rfl (hk_130 _ _ _ _ _ _  h)
      · have h := it_t h hc
        refine G.aload_n C 0 dX10_parts_152 rfl rfl ?_
        refine G.getR (k := 49) C k_X10 (sm_67 hE) rfl (by decide) tg_1480 dX10_parts_153 ?_
        refine G.iload_n C 1 dX10_parts_156 rfl rfl ?_
        obtain ⟨hg_7, h⟩ := gd_ex h
        refine aald_q (k := 3) (t := 112 + ix x1) (ty := .array .boolean) C (sm_111 hE) rfl rfl hg_7 (rowE_111 hg_7) dX10_parts_157 ?_
        have hq_8 := rowS_111 hE hg_7
        refine G.iload C 5 dX10_parts_158 rfl ?_
        obtain ⟨hg_9, h⟩ := gd_ex h
        refine G.aZ (j := ix x5) C (hq_8) hg_9 rfl dX10_parts_160 ?_
        refine G.if_eq (tgt := 168) C dX10_parts_161 (by decide) (fun hc => ?_) (fun hc => ?_)
        · have h := it_t h hc
          refine G.iconst (v := (0 : Int32)) C dX10_parts_168 (by decide) ?_
          refine G.istore (L' := [(4, .int (0 : Int32)), (0, .ref (eA E 67)), (1, .int x1), (2, .int x2), (3, .int x3), (5, .int x5)]) C dX10_parts_169 rfl (by decide) rfl ?_
          obtain ⟨x5_10, ex5_10, h⟩ := ltv_ex h
          refine G.iinc (L' := [(5, .int x5_10), (4, .int (0 : Int32)), (0, .ref (eA E 67)), (1, .int x1), (2, .int x2), (3, .int x3)]) C 5 dX10_parts_171 rfl (ex5_10.trans rfl) (by decide) rfl ?_
          refine G.goto (tgt := 130) C dX10_parts_174 (by decide) ?_
          exact G.sub [2, 3, 4, 5, 1, 0] rfl (hk_130 _ _ _ _ _ _  h)
        · have h := it_f h hc
          refine G.iconst (v := (1 : Int32)) C dX10_parts_164 (by decide) ?_
          refine G.goto (tgt := 169) C dX10_parts_165 (by decide) ?_
          refine G.istore (L' := [(4, .int (1 : Int32)), (0, .ref (eA E 67)), (1, .int x1), (2, .int x2), (3, .int x3), (5, .int x5)]) C dX10_parts_169 rfl (by decide) rfl ?_
          obtain ⟨x5_11, ex5_11, h⟩ := ltv_ex h
          refine G.iinc (L' := [(5, .int x5_11), (4, .int (1 : Int32)), (0, .ref (eA E 67)), (1, .int x1), (2, .int x2), (3, .int x3)]) C 5 dX10_parts_171 rfl (ex5_11.trans rfl) (by decide) rfl ?_
          refine G.goto (tgt := 130) C dX10_parts_174 (by decide) ?_
          exact G.sub [2, 3, 4, 5, 1, 0] rfl (hk_130 _ _ _ _ _ _  h)
def b_X10_parts_67_130 (rc : Int32 → Int32 → Mm → Option Mm) (k_119 : Int32 → Int32 → Int32 → Mm → Option Mm) : Nat → Int32 → Int32 → Int32 → Int32 → Int32 → Mm → Option Mm
  | 0, _, _, _, _, _, _ => none
  | n + 1, x1, x2, x3, x4, x5, M => bb_X10_parts_67_130 rc k_119 (b_X10_parts_67_130 rc k_119 n) x1 x2 x3 x4 x5 M
set_option maxHeartbeats 4000000 in
theorem g_X10_parts_67_130 {dd : Nat}  {rc : Int32 → Int32 → Mm → Option Mm} {k_119 : Int32 → Int32 → Int32 → Mm → Option Mm} {n : Nat} {x1 : Int32} {x2 : Int32} {x3 : Int32} {x4 : Int32} {x5 : Int32} {M : Mm} {M' : Mm} (hE : Has shM (eH E)) (C : Cx RX10 cX10_parts 6 p (rmD (1 + dd)) s m args meth c E) (hr : meth.sig.returnType = none) (hrc : ∀ (x1 : Int32) (x2 : Int32) (M : Mm) (M' : Mm), rc x1 x2 M = some M' → MetA l yX10_parts cX10_parts 6 none (0 + dd) E [.ref (eA E 67), .int x1, .int x2] M none M') (hk_119 : ∀ (x1 : Int32) (x2 : Int32) (x3 : Int32) (M : Mm), k_119 x1 x2 x3 M = some M' → G p l e (rmD (1 + dd)) s m args below meth c E 6 0 0 (QR below args s E 0 0 none M') 119 [(0, .ref (eA E 67)), (1, .int x1), (2, .int x2), (3, .int x3)] [] M) (h : b_X10_parts_67_130 rc k_119 n x1 x2 x3 x4 x5 M = some M') : G p l e (rmD (1 + dd)) s m args below meth c E 6 0 0 (QR below args s E 0 0 none M') 130 [(0, .ref (eA E 67)), (1, .int x1), (2, .int x2), (3, .int x3), (4, .int x4), (5, .int x5)] [] M := by
  induction n generalizing x1 x2 x3 x4 x5 M with
  | zero => cases h
  | succ n ih => exact gb_X10_parts_67_130 hE C hr hrc hk_119 (fun _ _ _ _ _ _ => ih)  h
def bb_X10_parts_67_119 (rc : Int32 → Int32 → Mm → Option Mm) (k_119 : Int32 → Int32 → Int32 → Mm → Option Mm) (x1 : Int32) (x2 : Int32) (x3 : Int32) (M : Mm) : Option Mm := if x2 < x3 then (some M) else (b_X10_parts_67_130 rc k_119 FU x1 x2 x3 (1 : Int32) (0 : Int32) M)
set_option maxHeartbeats 4000000 in
set_option maxRecDepth 100000 in
theorem gb_X10_parts_67_119 {dd : Nat}  {rc : Int32 → Int32 → Mm → Option Mm} {k_119 : Int32 → Int32 → Int32 → Mm → Option Mm} {x1 : Int32} {x2 : Int32} {x3 : Int32} {M : Mm} {M' : Mm} (hE : Has shM (eH E)) (C : Cx RX10 cX10_parts 6 p (rmD (1 + dd)) s m args meth c E) (hr : meth.sig.returnType = none) (hrc : ∀ (x1 : Int32) (x2 : Int32) (M : Mm) (M' : Mm), rc x1 x2 M = some M' → MetA l yX10_parts cX10_parts 6 none (0 + dd) E [.ref (eA E 67), .int x1, .int x2] M none M') (hk_119 : ∀ (x1 : Int32) (x2 : Int32) (x3 : Int32) (M : Mm), k_119 x1 x2 x3 M = some M' → G p l e (rmD (1 + dd)) s m args below meth c E 6 0 0 (QR below args s E 0 0 none M') 119 [(0, .ref (eA E 67)), (1, .int x1), (2, .int x2), (3, .int x3)] [] M) (h : bb_X10_parts_67_119 rc k_119 x1 x2 x3 M = some M') : G p l e (rmD (1 + dd)) s m args below meth c E 6 0 0 (QR below args s E 0 0 none M') 119 [(0, .ref (eA E 67)), (1, .int x1), (2, .int x2), (3, .int x3)] [] M := by
  unfold bb_X10_parts_67_119 at h
  refine G.iload_n C 3 dX10_parts_119 rfl rfl ?_
  refine G.iload_n C 2 dX10_parts_120 rfl rfl ?_
  refine G.icmp_gt (tgt := 217) C dX10_parts_121 (by decide) (fun hc => ?_) (fun hc => ?_)
  · have h := it_t h hc
    cases h
    exact G.vret C hr dX10_parts_217
  · have h := it_f h hc
    refine G.iconst (v := (1 : Int32)) C dX10_parts_124 (by decide) ?_
    refine G.istore (L' := [(4, .int (1 : Int32)), (0, .ref (eA E 67)), (1, .int x1), (2, .int x2), (3, .int x3)]) C dX10_parts_125 rfl (by decide) rfl ?_
    refine G.iconst (v := (0 : Int32)) C dX10_parts_127 (by decide) ?_
    refine G.istore (L' := [(5, .int (0 : Int32)), (4, .int (1 : Int32)), (0, .ref (eA E 67)), (1, .int x1), (2, .int x2), (3, .int x3)]) C dX10_parts_128 rfl (by decide) rfl ?_
    exact G.sub [2, 3, 4, 5, 1, 0] rfl (g_X10_parts_67_130 hE C hr hrc hk_119  h)
def b_X10_parts_67_119 (rc : Int32 → Int32 → Mm → Option Mm) : Nat → Int32 → Int32 → Int32 → Mm → Option Mm
  | 0, _, _, _, _ => none
  | n + 1, x1, x2, x3, M => bb_X10_parts_67_119 rc (b_X10_parts_67_119 rc n) x1 x2 x3 M
set_option maxHeartbeats 4000000 in
theorem g_X10_parts_67_119 {dd : Nat}  {rc : Int32 → Int32 → Mm → Option Mm} {n : Nat} {x1 : Int32} {x2 : Int32} {x3 : Int32} {M : Mm} {M' : Mm} (hE : Has shM (eH E)) (C : Cx RX10 cX10_parts 6 p (rmD (1 + dd)) s m args meth c E) (hr : meth.sig.returnType = none) (hrc : ∀ (x1 : Int32) (x2 : Int32) (M : Mm) (M' : Mm), rc x1 x2 M = some M' → MetA l yX10_parts cX10_parts 6 none (0 + dd) E [.ref (eA E 67), .int x1, .int x2] M none M') (h : b_X10_parts_67_119 rc n x1 x2 x3 M = some M') : G p l e (rmD (1 + dd)) s m args below meth c E 6 0 0 (QR below args s E 0 0 none M') 119 [(0, .ref (eA E 67)), (1, .int x1), (2, .int x2), (3, .int x3)] [] M := by
  induction n generalizing x1 x2 x3 M with
  | zero => cases h
  | succ n ih => exact gb_X10_parts_67_119 hE C hr hrc (fun _ _ _ _ => ih)  h
def bb_X10_parts_67_0 (rc : Int32 → Int32 → Mm → Option Mm) (x1 : Int32) (x2 : Int32) (M : Mm) : Option Mm := if x1 = (M.1 67 26) then (ltv (wI M 67 43 ((M.1 67 43) + (1 : Int32))) fun M_1 => if (M_1.1 67 44) = (-1 : Int32) then (ltv (wI M_1 67 44 x2) fun M_2 => b_X10_parts_67_48 rc FU (0 : Int32) M_2) else (if (M_1.1 67 44) ≤ x2 then (ltv (wI M_1 67 44 (M_1.1 67 44)) fun M_3 => b_X10_parts_67_48 rc FU (0 : Int32) M_3) else (ltv (wI M_1 67 44 x2) fun M_4 => b_X10_parts_67_48 rc FU (0 : Int32) M_4))) else (b_X10_parts_67_119 rc FU x1 x2 (0 : Int32) M)
set_option maxHeartbeats 4000000 in
set_option maxRecDepth 100000 in
theorem gb_X10_parts_67_0 {dd : Nat}  {rc : Int32 → Int32 → Mm → Option Mm} {x1 : Int32} {x2 : Int32} {M : Mm} {M' : Mm} (hE : Has shM (eH E)) (C : Cx RX10 cX10_parts 6 p (rmD (1 + dd)) s m args meth c E) (hr : meth.sig.returnType = none) (hrc : ∀ (x1 : Int32) (x2 : Int32) (M : Mm) (M' : Mm), rc x1 x2 M = some M' → MetA l yX10_parts cX10_parts 6 none (0 + dd) E [.ref (eA E 67), .int x1, .int x2] M none M') (h : bb_X10_parts_67_0 rc x1 x2 M = some M') : G p l e (rmD (1 + dd)) s m args below meth c E 6 0 0 (QR below args s E 0 0 none M') 0 [(0, .ref (eA E 67)), (1, .int x1), (2, .int x2)] [] M := by
  unfold bb_X10_parts_67_0 at h
  refine G.iload_n C 1 dX10_parts_0 rfl rfl ?_
  refine G.aload_n C 0 dX10_parts_1 rfl rfl ?_
  refine G.getI (k := 26) C k_X10 (sm_67 hE) rfl (by decide) tg_1457 dX10_parts_2 ?_
  refine G.icmp_ne (tgt := 117) C dX10_parts_5 (by decide) (fun hc => ?_) (fun hc => ?_)
  · have h := it_f h hc
    refine G.iconst (v := (0 : Int32)) C dX10_parts_117 (by decide) ?_
    refine G.istore_n (L' := [(3, .int (0 : Int32)), (0, .ref (eA E 67)), (1, .int x1), (2, .int x2)]) C dX10_parts_118 rfl rfl (by decide) rfl ?_
    exact G.sub [1, 2, 3, 0] rfl (g_X10_parts_67_119 hE C hr hrc  h)
  · have h := it_t h hc
    refine G.aload_n C 0 dX10_parts_8 rfl rfl ?_
    refine G.dup C dX10_parts_9 rfl ?_
    refine G.getI (k := 43) C k_X10 (sm_67 hE) rfl (by decide) tg_1474 dX10_parts_10 ?_
    refine G.iconst (v := (1 : Int32)) C dX10_parts_13 (by decide) ?_
    refine G.iadd C dX10_parts_14 ?_
    obtain ⟨M_1, eM_1, h⟩ := ltv_ex h
    refine G.putI (k := 43) C k_X10 (sm_67 hE) rfl (by decide) tg_1474 rfl rfl dX10_parts_15 eM_1 ?_
    refine G.aload_n C 0 dX10_parts_18 rfl rfl ?_
    refine G.aload_n C 0 dX10_parts_19 rfl rfl ?_
    refine G.getI (k := 44) C k_X10 (sm_67 hE) rfl (by decide) tg_1475 dX10_parts_20 ?_
    refine G.iconst (v := (-1 : Int32)) C dX10_parts_23 (by decide) ?_
    refine G.icmp_eq (tgt := 35) C dX10_parts_24 (by decide) (fun hc => ?_) (fun hc => ?_)
    · have h := it_t h hc
      refine G.iload_n C 2 dX10_parts_35 rfl rfl ?_
      refine G.goto (tgt := 43) C dX10_parts_36 (by decide) ?_
      obtain ⟨M_2, eM_2, h⟩ := ltv_ex h
      refine G.putI (k := 44) C k_X10 (sm_67 hE) rfl (by decide) tg_1475 rfl rfl dX10_parts_43 eM_2 ?_
      refine G.iconst (v := (0 : Int32)) C dX10_parts_46 (by decide) ?_
      refine G.istore_n (L' := [(3, .int (0 : Int32)), (0, .ref (eA E 67)), (1, .int x1), (2, .int x2)]) C dX10_parts_47 rfl rfl (by decide) rfl ?_
      exact G.sub [1, 0] rfl (g_X10_parts_67_48 hE C hr hrc  h)
    · have h := it_f h hc
      refine G.iload_n C 2 dX10_parts_27 rfl rfl ?_
      refine G.aload_n C 0 dX10_parts_28 rfl rfl ?_
      refine G.getI (k := 44) C k_X10 (sm_67 hE) rfl (by decide) tg_1475 dX10_parts_29 ?_
      refine G.icmp_ge (tgt := 39) C dX10_parts_32 (by decide) (fun hc => ?_) (fun hc => ?_)
      · have h := it_t h hc
        refine G.aload_n C 0 dX10_parts_39 rfl rfl ?_
        refine G.getI (k := 44) C k_X10 (sm_67 hE) rfl (by decide) tg_1475 dX10_parts_40 ?_
        obtain ⟨M_3, eM_3, h⟩ := ltv_ex h
        refine G.putI (k := 44) C k_X10 (sm_67 hE) rfl (by decide) tg_1475 rfl rfl dX10_parts_43 eM_3 ?_
        refine G.iconst (v := (0 : Int32)) C dX10_parts_46 (by decide) ?_
        refine G.istore_n (L' := [(3, .int (0 : Int32)), (0, .ref (eA E 67)), (1, .int x1), (2, .int x2)]) C dX10_parts_47 rfl rfl (by decide) rfl ?_
        exact G.sub [1, 0] rfl (g_X10_parts_67_48 hE C hr hrc  h)
      · have h := it_f h hc
        refine G.iload_n C 2 dX10_parts_35 rfl rfl ?_
        refine G.goto (tgt := 43) C dX10_parts_36 (by decide) ?_
        obtain ⟨M_4, eM_4, h⟩ := ltv_ex h
        refine G.putI (k := 44) C k_X10 (sm_67 hE) rfl (by decide) tg_1475 rfl rfl dX10_parts_43 eM_4 ?_
        refine G.iconst (v := (0 : Int32)) C dX10_parts_46 (by decide) ?_
        refine G.istore_n (L' := [(3, .int (0 : Int32)), (0, .ref (eA E 67)), (1, .int x1), (2, .int x2)]) C dX10_parts_47 rfl rfl (by decide) rfl ?_
        exact G.sub [1, 0] rfl (g_X10_parts_67_48 hE C hr hrc  h)
def fr_X10_parts_67 : Nat → Int32 → Int32 → Mm → Option Mm
  | 0, _, _, _ => none
  | n + 1, x1, x2, M => (bb_X10_parts_67_0 (fr_X10_parts_67 n) x1 x2 M)
theorem sr_X10_parts_67 {l : Launch} {E : Ev} (hE : Has shM (eH E)) (n : Nat) : ∀ (x1 : Int32) (x2 : Int32) (M : Mm) (M' : Mm), fr_X10_parts_67 n x1 x2 M = some M' → MetA l yX10_parts cX10_parts 6 none (0 + n) E [.ref (eA E 67), .int x1, .int x2] M none M' := by
  induction n with
  | zero => intros; rename_i h; cases h
  | succ n ih =>
    intro x1 x2 M  M'  h
    refine MetA.of (by decide +kernel) (Nat.le_of_ble_eq_true rfl) ?_
    intro p e s m below meth c C hr hnm
    rw [show 0 + (n + 1) = 1 + n by omega] at C ⊢
    exact G.sub [0, 1, 2] rfl (gb_X10_parts_67_0 (dd := n) hE C hr ih  h)
def f_X10_parts_67 (x1 : Int32) (x2 : Int32) (M : Mm) : Option Mm := fr_X10_parts_67 12 x1 x2 M
theorem s_X10_parts_67 {l : Launch} {E : Ev} {x1 : Int32} {x2 : Int32} {M : Mm} {M' : Mm} (hE : Has shM (eH E)) (h : f_X10_parts_67 x1 x2 M = some M') : MetA l yX10_parts cX10_parts 6 none 12 E [.ref (eA E 67), .int x1, .int x2] M none M' := sr_X10_parts_67 hE 12 _ _ _ _  h
def bb_X10_partings_67_54 (k_42 : Int32 → Int32 → Int32 → Int32 → Mm → Option (Int32 × Mm)) (k_54 : Int32 → Int32 → Int32 → Int32 → Int32 → Mm → Option (Int32 × Mm)) (x1 : Int32) (x2 : Int32) (x3 : Int32) (x4 : Int32) (x5 : Int32) (M : Mm) : Option (Int32 × Mm) := if (M.1 67 26) ≤ x5 then (ltv (x4 + (1 : Int32)) fun x4_17 => k_42 x1 x2 x3 x4_17 M) else (gd (inb x4 8) (bd (f_X10_areKin_67 x4 x5 x1 x2 M) fun v_21 => gd (inb x5 8) (ltv (wI M (112 + ix x4) (ix x5) (vp_nar .boolean v_21)) fun M_23 => ltv (x5 + (1 : Int32)) fun x5_24 => k_54 x1 x2 x3 x4 x5_24 M_23)))
set_option maxHeartbeats 4000000 in
set_option maxRecDepth 100000 in
theorem gb_X10_partings_67_54  {k_42 : Int32 → Int32 → Int32 → Int32 → Mm → Option (Int32 × Mm)} {k_54 : Int32 → Int32 → Int32 → Int32 → Int32 → Mm → Option (Int32 × Mm)} {x1 : Int32} {x2 : Int32} {x3 : Int32} {x4 : Int32} {x5 : Int32} {M : Mm} {v : Int32} {M' : Mm} (hE : Has shM (eH E)) (C : Cx RX10 cX10_partings 6 p (rmD 13) s m args meth c E) (hr : meth.sig.returnType = (some .int)) (hk_42 : ∀ (x1 : Int32) (x2 : Int32) (x3 : Int32) (x4 : Int32) (M : Mm), k_42 x1 x2 x3 x4 M = some (v, M') → G p l e (rmD 13) s m args below meth c E 6 0 0 (QR below args s E 0 0 (some (.int v)) M') 42 [(0, .ref (eA E 67)), (1, .int x1), (2, .int x2), (3, .int x3), (4, .int x4)] [] M) (hk_54 : ∀ (x1 : Int32) (x2 : Int32) (x3 : Int32) (x4 : Int32) (x5 : Int32) (M : Mm), k_54 x1 x2 x3 x4 x5 M = some (v, M') → G p l e (rmD 13) s m args below meth c E 6 0 0 (QR below args s E 0 0 (some (.int v)) M') 54 [(0, .ref (eA E 67)), (1, .int x1), (2, .int x2), (3, .int x3), (4, .int x4), (5, .int x5)] [] M) (h : bb_X10_partings_67_54 k_42 k_54 x1 x2 x3 x4 x5 M = some (v, M')) : G p l e (rmD 13) s m args below meth c E 6 0 0 (QR below args s E 0 0 (some (.int v)) M') 54 [(0, .ref (eA E 67)), (1, .int x1), (2, .int x2), (3, .int x3), (4, .int x4), (5, .int x5)] [] M := by
  unfold bb_X10_partings_67_54 at h
  refine G.iload C 5 dX10_partings_54 rfl ?_
  refine G.aload_n C 0 dX10_partings_56 rfl rfl ?_
  refine G.getI (k := 26) C k_X10 (sm_67 hE) rfl (by decide) tg_1457 dX10_partings_57 ?_
  refine G.icmp_ge (tgt := 89) C dX10_partings_60 (by decide) (fun hc => ?_) (fun hc => ?_)
  · have h := it_t h hc
    obtain ⟨x4_17, ex4_17, h⟩ := ltv_ex h
    refine G.iinc (L' := [(4, .int x4_17), (0, .ref (eA E 67)), (1, .int x1), (2, .int x2), (3, .int x3), (5, .int x5)]) C 4 dX10_partings_89 rfl (ex4_17.trans rfl) (by decide) rfl ?_
    refine G.goto (tgt := 42) C dX10_partings_92 (by decide) ?_
    exact G.sub [1, 2, 3, 4, 0] rfl (hk_42 _ _ _ _ _  h)
  · have h := it_f h hc
    refine G.aload_n C 0 dX10_partings_63 rfl rfl ?_
    refine G.getR (k := 49) C k_X10 (sm_67 hE) rfl (by decide) tg_1480 dX10_partings_64 ?_
    refine G.iload C 4 dX10_partings_67 rfl ?_
    obtain ⟨hg_18, h⟩ := gd_ex h
    refine aald_q (k := 3) (t := 112 + ix x4) (ty := .array .boolean) C (sm_111 hE) rfl rfl hg_18 (rowE_111 hg_18) dX10_partings_69 ?_
    have hq_19 := rowS_111 hE hg_18
    refine G.iload C 5 dX10_partings_70 rfl ?_
    refine G.aload_n C 0 dX10_partings_72 rfl rfl ?_
    refine G.iload C 4 dX10_partings_73 rfl ?_
    refine G.iload C 5 dX10_partings_75 rfl ?_
    refine G.iload_n C 1 dX10_partings_77 rfl rfl ?_
    refine G.iload_n C 2 dX10_partings_78 rfl rfl ?_
    obtain ⟨v_21, hv_20, h⟩ := bd_ex h
    refine G.callV (rest := [.int x5, .ref (eA E (112 + ix x4))]) C (s_X10_areKin_67 hE  hv_20) ⟨tg_1933, tg_103, ok_X10_areKin, Nat.le_of_ble_eq_true rfl, Nat.le_of_ble_eq_true rfl⟩ tg_1930 tg_1932 tg_84 (sm_67 hE) rfl rfl (Nat.le_of_ble_eq_true rfl) dX10_partings_79 ⟨Nat.le_refl 0, Nat.le_refl 0⟩ ?_
    obtain ⟨hg_22, h⟩ := gd_ex h
    obtain ⟨M_23, eM_23, h⟩ := ltv_ex h
    refine G.sZ (j := (ix x5)) C (hq_19) hg_22 rfl dX10_partings_82 eM_23 ?_
    obtain ⟨x5_24, ex5_24, h⟩ := ltv_ex h
    refine G.iinc (L' := [(5, .int x5_24), (0, .ref (eA E 67)), (1, .int x1), (2, .int x2), (3, .int x3), (4, .int x4)]) C 5 dX10_partings_83 rfl (ex5_24.trans rfl) (by decide) rfl ?_
    refine G.goto (tgt := 54) C dX10_partings_86 (by decide) ?_
    exact G.sub [1, 2, 3, 4, 5, 0] rfl (hk_54 _ _ _ _ _ _  h)
def b_X10_partings_67_54 (k_42 : Int32 → Int32 → Int32 → Int32 → Mm → Option (Int32 × Mm)) : Nat → Int32 → Int32 → Int32 → Int32 → Int32 → Mm → Option (Int32 × Mm)
  | 0, _, _, _, _, _, _ => none
  | n + 1, x1, x2, x3, x4, x5, M => bb_X10_partings_67_54 k_42 (b_X10_partings_67_54 k_42 n) x1 x2 x3 x4 x5 M
set_option maxHeartbeats 4000000 in
theorem g_X10_partings_67_54  {k_42 : Int32 → Int32 → Int32 → Int32 → Mm → Option (Int32 × Mm)} {n : Nat} {x1 : Int32} {x2 : Int32} {x3 : Int32} {x4 : Int32} {x5 : Int32} {M : Mm} {v : Int32} {M' : Mm} (hE : Has shM (eH E)) (C : Cx RX10 cX10_partings 6 p (rmD 13) s m args meth c E) (hr : meth.sig.returnType = (some .int)) (hk_42 : ∀ (x1 : Int32) (x2 : Int32) (x3 : Int32) (x4 : Int32) (M : Mm), k_42 x1 x2 x3 x4 M = some (v, M') → G p l e (rmD 13) s m args below meth c E 6 0 0 (QR below args s E 0 0 (some (.int v)) M') 42 [(0, .ref (eA E 67)), (1, .int x1), (2, .int x2), (3, .int x3), (4, .int x4)] [] M) (h : b_X10_partings_67_54 k_42 n x1 x2 x3 x4 x5 M = some (v, M')) : G p l e (rmD 13) s m args below meth c E 6 0 0 (QR below args s E 0 0 (some (.int v)) M') 54 [(0, .ref (eA E 67)), (1, .int x1), (2, .int x2), (3, .int x3), (4, .int x4), (5, .int x5)] [] M := by
  induction n generalizing x1 x2 x3 x4 x5 M with
  | zero => cases h
  | succ n ih => exact gb_X10_partings_67_54 hE C hr hk_42 (fun _ _ _ _ _ _ => ih)  h
def bb_X10_partings_67_42 (k_42 : Int32 → Int32 → Int32 → Int32 → Mm → Option (Int32 × Mm)) (x1 : Int32) (x2 : Int32) (x3 : Int32) (x4 : Int32) (M : Mm) : Option (Int32 × Mm) := if (M.1 67 26) ≤ x4 then (ltv (wI M 67 43 (0 : Int32)) fun M_12 => ltv (wI M_12 67 44 (-1 : Int32)) fun M_13 => ltv (wI M_13 67 45 ((shI (1 : Int32) (M_13.1 67 26)) - (1 : Int32))) fun M_14 => bd (f_X10_parts_67 (0 : Int32) (0 : Int32) M_14) fun M_16 => if x3 = 0 then (some (M_16.1 67 43, M_16)) else (if x3 = (1 : Int32) then (some (M_16.1 67 44, M_16)) else (some (M_16.1 67 45, M_16)))) else (b_X10_partings_67_54 k_42 FU x1 x2 x3 x4 (0 : Int32) M)
set_option maxHeartbeats 4000000 in
set_option maxRecDepth 100000 in
theorem gb_X10_partings_67_42  {k_42 : Int32 → Int32 → Int32 → Int32 → Mm → Option (Int32 × Mm)} {x1 : Int32} {x2 : Int32} {x3 : Int32} {x4 : Int32} {M : Mm} {v : Int32} {M' : Mm} (hE : Has shM (eH E)) (C : Cx RX10 cX10_partings 6 p (rmD 13) s m args meth c E) (hr : meth.sig.returnType = (some .int)) (hk_42 : ∀ (x1 : Int32) (x2 : Int32) (x3 : Int32) (x4 : Int32) (M : Mm), k_42 x1 x2 x3 x4 M = some (v, M') → G p l e (rmD 13) s m args below meth c E 6 0 0 (QR below args s E 0 0 (some (.int v)) M') 42 [(0, .ref (eA E 67)), (1, .int x1), (2, .int x2), (3, .int x3), (4, .int x4)] [] M) (h : bb_X10_partings_67_42 k_42 x1 x2 x3 x4 M = some (v, M')) : G p l e (rmD 13) s m args below meth c E 6 0 0 (QR below args s E 0 0 (some (.int v)) M') 42 [(0, .ref (eA E 67)), (1, .int x1), (2, .int x2), (3, .int x3), (4, .int x4)] [] M := by
  unfold bb_X10_partings_67_42 at h
  refine G.iload C 4 dX10_partings_42 rfl ?_
  refine G.aload_n C 0 dX10_partings_44 rfl rfl ?_
  refine G.getI (k := 26) C k_X10 (sm_67 hE) rfl (by decide) tg_1457 dX10_partings_45 ?_
  refine G.icmp_ge (tgt := 95) C dX10_partings_48 (by decide) (fun hc => ?_) (fun hc => ?_)
  · have h := it_t h hc
    refine G.aload_n C 0 dX10_partings_95 rfl rfl ?_
    refine G.iconst (v := (0 : Int32)) C dX10_partings_96 (by decide) ?_
    obtain ⟨M_12, eM_12, h⟩ := ltv_ex h
    refine G.putI (k := 43) C k_X10 (sm_67 hE) rfl (by decide) tg_1474 rfl rfl dX10_partings_97 eM_12 ?_
    refine G.aload_n C 0 dX10_partings_100 rfl rfl ?_
    refine G.iconst (v := (-1 : Int32)) C dX10_partings_101 (by decide) ?_
    obtain ⟨M_13, eM_13, h⟩ := ltv_ex h
    refine G.putI (k := 44) C k_X10 (sm_67 hE) rfl (by decide) tg_1475 rfl rfl dX10_partings_102 eM_13 ?_
    refine G.aload_n C 0 dX10_partings_105 rfl rfl ?_
    refine G.iconst (v := (1 : Int32)) C dX10_partings_106 (by decide) ?_
    refine G.aload_n C 0 dX10_partings_107 rfl rfl ?_
    refine G.getI (k := 26) C k_X10 (sm_67 hE) rfl (by decide) tg_1457 dX10_partings_108 ?_
    refine G.isl C dX10_partings_111 ?_
    refine G.iconst (v := (1 : Int32)) C dX10_partings_112 (by decide) ?_
    refine G.isub C dX10_partings_113 ?_
    obtain ⟨M_14, eM_14, h⟩ := ltv_ex h
    refine G.putI (k := 45) C k_X10 (sm_67 hE) rfl (by decide) tg_1476 rfl rfl dX10_partings_114 eM_14 ?_
    refine G.aload_n C 0 dX10_partings_117 rfl rfl ?_
    refine G.iconst (v := (0 : Int32)) C dX10_partings_118 (by decide) ?_
    refine G.iconst (v := (0 : Int32)) C dX10_partings_119 (by decide) ?_
    obtain ⟨M_16, hv_15, h⟩ := bd_ex h
    refine G.callV (rest := []) C (s_X10_parts_67 hE  hv_15) ⟨tg_1941, tg_103, ok_X10_parts, Nat.le_of_ble_eq_true rfl, Nat.le_of_ble_eq_true rfl⟩ tg_1938 tg_1940 tg_85 (sm_67 hE) rfl rfl (Nat.le_of_ble_eq_true rfl) dX10_partings_120 ⟨Nat.le_refl 0, Nat.le_refl 0⟩ ?_
    refine G.iload_n C 3 dX10_partings_123 rfl rfl ?_
    refine G.if_ne (tgt := 134) C dX10_partings_124 (by decide) (fun hc => ?_) (fun hc => ?_)
    · have h := it_f h hc
      refine G.iload_n C 3 dX10_partings_134 rfl rfl ?_
      refine G.iconst (v := (1 : Int32)) C dX10_partings_135 (by decide) ?_
      refine G.icmp_ne (tgt := 146) C dX10_partings_136 (by decide) (fun hc => ?_) (fun hc => ?_)
      · have h := it_f h hc
        refine G.aload_n C 0 dX10_partings_146 rfl rfl ?_
        refine G.getI (k := 45) C k_X10 (sm_67 hE) rfl (by decide) tg_1476 dX10_partings_147 ?_
        cases h
        exact G.iret C hr dX10_partings_150
      · have h := it_t h hc
        refine G.aload_n C 0 dX10_partings_139 rfl rfl ?_
        refine G.getI (k := 44) C k_X10 (sm_67 hE) rfl (by decide) tg_1475 dX10_partings_140 ?_
        refine G.goto (tgt := 150) C dX10_partings_143 (by decide) ?_
        cases h
        exact G.iret C hr dX10_partings_150
    · have h := it_t h hc
      refine G.aload_n C 0 dX10_partings_127 rfl rfl ?_
      refine G.getI (k := 43) C k_X10 (sm_67 hE) rfl (by decide) tg_1474 dX10_partings_128 ?_
      refine G.goto (tgt := 150) C dX10_partings_131 (by decide) ?_
      cases h
      exact G.iret C hr dX10_partings_150
  · have h := it_f h hc
    refine G.iconst (v := (0 : Int32)) C dX10_partings_51 (by decide) ?_
    refine G.istore (L' := [(5, .int (0 : Int32)), (0, .ref (eA E 67)), (1, .int x1), (2, .int x2), (3, .int x3), (4, .int x4)]) C dX10_partings_52 rfl (by decide) rfl ?_
    exact G.sub [1, 2, 3, 4, 5, 0] rfl (g_X10_partings_67_54 hE C hr hk_42  h)
def b_X10_partings_67_42 : Nat → Int32 → Int32 → Int32 → Int32 → Mm → Option (Int32 × Mm)
  | 0, _, _, _, _, _ => none
  | n + 1, x1, x2, x3, x4, M => bb_X10_partings_67_42 (b_X10_partings_67_42 n) x1 x2 x3 x4 M
set_option maxHeartbeats 4000000 in
theorem g_X10_partings_67_42  {n : Nat} {x1 : Int32} {x2 : Int32} {x3 : Int32} {x4 : Int32} {M : Mm} {v : Int32} {M' : Mm} (hE : Has shM (eH E)) (C : Cx RX10 cX10_partings 6 p (rmD 13) s m args meth c E) (hr : meth.sig.returnType = (some .int)) (h : b_X10_partings_67_42 n x1 x2 x3 x4 M = some (v, M')) : G p l e (rmD 13) s m args below meth c E 6 0 0 (QR below args s E 0 0 (some (.int v)) M') 42 [(0, .ref (eA E 67)), (1, .int x1), (2, .int x2), (3, .int x3), (4, .int x4)] [] M := by
  induction n generalizing x1 x2 x3 x4 M with
  | zero => cases h
  | succ n ih => exact gb_X10_partings_67_42 hE C hr (fun _ _ _ _ _ => ih)  h
def bb_X10_partings_67_25 (x1 : Int32) (x2 : Int32) (x3 : Int32) (M : Mm) : Option (Int32 × Mm) := bd2 (f_X10_bad_67 (1 : Int32) (1 : Int32) M) fun v_11 M_10 => if v_11 = 0 then (b_X10_partings_67_42 FU x1 x2 x3 (0 : Int32) M_10) else (some ((0 : Int32), M_10))
set_option maxHeartbeats 4000000 in
set_option maxRecDepth 100000 in
theorem gb_X10_partings_67_25  {x1 : Int32} {x2 : Int32} {x3 : Int32} {M : Mm} {v : Int32} {M' : Mm} (hE : Has shM (eH E)) (C : Cx RX10 cX10_partings 6 p (rmD 13) s m args meth c E) (hr : meth.sig.returnType = (some .int)) (h : bb_X10_partings_67_25 x1 x2 x3 M = some (v, M')) : G p l e (rmD 13) s m args below meth c E 6 0 0 (QR below args s E 0 0 (some (.int v)) M') 25 [(0, .ref (eA E 67)), (1, .int x1), (2, .int x2), (3, .int x3)] [.ref (eA E 67)] M := by
  unfold bb_X10_partings_67_25 at h
  refine G.iconst (v := (1 : Int32)) C dX10_partings_25 (by decide) ?_
  refine G.goto (tgt := 30) C dX10_partings_26 (by decide) ?_
  refine G.iconst (v := (1 : Int32)) C dX10_partings_30 (by decide) ?_
  obtain ⟨v_11, M_10, hv_9, h⟩ := bd2_ex h
  refine G.callV (rest := []) C (s_X10_bad_67 hE  hv_9) ⟨tg_1600, tg_103, ok_X10_bad, Nat.le_of_ble_eq_true rfl, Nat.le_of_ble_eq_true rfl⟩ tg_1597 tg_1599 tg_46 (sm_67 hE) rfl rfl (Nat.le_of_ble_eq_true rfl) dX10_partings_31 ⟨Nat.le_refl 0, Nat.le_refl 0⟩ ?_
  refine G.if_eq (tgt := 39) C dX10_partings_34 (by decide) (fun hc => ?_) (fun hc => ?_)
  · have h := it_t h hc
    refine G.iconst (v := (0 : Int32)) C dX10_partings_39 (by decide) ?_
    refine G.istore (L' := [(4, .int (0 : Int32)), (0, .ref (eA E 67)), (1, .int x1), (2, .int x2), (3, .int x3)]) C dX10_partings_40 rfl (by decide) rfl ?_
    exact G.sub [1, 2, 3, 4, 0] rfl (g_X10_partings_67_42 hE C hr  h)
  · have h := it_f h hc
    refine G.iconst (v := (0 : Int32)) C dX10_partings_37 (by decide) ?_
    cases h
    exact G.iret C hr dX10_partings_38
def bb_X10_partings_67_0 (x1 : Int32) (x2 : Int32) (x3 : Int32) (M : Mm) : Option (Int32 × Mm) := ltv (wI M 67 0 (0 : Int32)) fun M_1 => bd (f_X10_in x1 (0 : Int32) (64 : Int32)) fun v_3 => if v_3 = 0 then (bb_X10_partings_67_25 x1 x2 x3 M_1) else (bd (f_X10_in x3 (0 : Int32) (2 : Int32)) fun v_5 => if v_5 = 0 then (bb_X10_partings_67_25 x1 x2 x3 M_1) else (bd2 (f_X10_bad_67 (0 : Int32) (1 : Int32) M_1) fun v_8 M_7 => if v_8 = 0 then (b_X10_partings_67_42 FU x1 x2 x3 (0 : Int32) M_7) else (some ((0 : Int32), M_7))))
set_option maxHeartbeats 4000000 in
set_option maxRecDepth 100000 in
theorem gb_X10_partings_67_0  {x1 : Int32} {x2 : Int32} {x3 : Int32} {M : Mm} {v : Int32} {M' : Mm} (hE : Has shM (eH E)) (C : Cx RX10 cX10_partings 6 p (rmD 13) s m args meth c E) (hr : meth.sig.returnType = (some .int)) (h : bb_X10_partings_67_0 x1 x2 x3 M = some (v, M')) : G p l e (rmD 13) s m args below meth c E 6 0 0 (QR below args s E 0 0 (some (.int v)) M') 0 [(0, .ref (eA E 67)), (1, .int x1), (2, .int x2), (3, .int x3)] [] M := by
  unfold bb_X10_partings_67_0 at h
  refine G.aload_n C 0 dX10_partings_0 rfl rfl ?_
  refine G.iconst (v := (0 : Int32)) C dX10_partings_1 (by decide) ?_
  obtain ⟨M_1, eM_1, h⟩ := ltv_ex h
  refine G.putI (k := 0) C k_X10 (sm_67 hE) rfl (by decide) tg_1431 rfl rfl dX10_partings_2 eM_1 ?_
  refine G.aload_n C 0 dX10_partings_5 rfl rfl ?_
  refine G.iload_n C 1 dX10_partings_6 rfl rfl ?_
  refine G.iconst (v := (0 : Int32)) C dX10_partings_7 (by decide) ?_
  refine G.bipush (v := (64 : Int32)) C dX10_partings_8 (by decide) ?_
  obtain ⟨v_3, hv_2, h⟩ := bd_ex h
  refine G.callS (rest := [.ref (eA E 67)]) C (s_X10_in  hv_2) ⟨tg_1596, tg_103, ok_X10_in, Nat.le_of_ble_eq_true rfl, Nat.le_of_ble_eq_true rfl⟩ tg_1594 tg_1595 rfl (Nat.le_of_ble_eq_true rfl) dX10_partings_10 ⟨Nat.le_refl 0, Nat.le_refl 0⟩ ?_
  refine G.if_eq (tgt := 25) C dX10_partings_13 (by decide) (fun hc => ?_) (fun hc => ?_)
  · have h := it_t h hc
    exact G.sub [0, 1, 2, 3] rfl (gb_X10_partings_67_25 hE C hr  h)
  · have h := it_f h hc
    refine G.iload_n C 3 dX10_partings_16 rfl rfl ?_
    refine G.iconst (v := (0 : Int32)) C dX10_partings_17 (by decide) ?_
    refine G.iconst (v := (2 : Int32)) C dX10_partings_18 (by decide) ?_
    obtain ⟨v_5, hv_4, h⟩ := bd_ex h
    refine G.callS (rest := [.ref (eA E 67)]) C (s_X10_in  hv_4) ⟨tg_1596, tg_103, ok_X10_in, Nat.le_of_ble_eq_true rfl, Nat.le_of_ble_eq_true rfl⟩ tg_1594 tg_1595 rfl (Nat.le_of_ble_eq_true rfl) dX10_partings_19 ⟨Nat.le_refl 0, Nat.le_refl 0⟩ ?_
    refine G.if_ne (tgt := 29) C dX10_partings_22 (by decide) (fun hc => ?_) (fun hc => ?_)
    · have h := it_f h hc
      refine G.iconst (v := (0 : Int32)) C dX10_partings_29 (by decide) ?_
      refine G.iconst (v := (1 : Int32)) C dX10_partings_30 (by decide) ?_
      obtain ⟨v_8, M_7, hv_6, h⟩ := bd2_ex h
      refine G.callV (rest := []) C (s_X10_bad_67 hE  hv_6) ⟨tg_1600, tg_103, ok_X10_bad, Nat.le_of_ble_eq_true rfl, Nat.le_of_ble_eq_true rfl⟩ tg_1597 tg_1599 tg_46 (sm_67 hE) rfl rfl (Nat.le_of_ble_eq_true rfl) dX10_partings_31 ⟨Nat.le_refl 0, Nat.le_refl 0⟩ ?_
      refine G.if_eq (tgt := 39) C dX10_partings_34 (by decide) (fun hc => ?_) (fun hc => ?_)
      · have h := it_t h hc
        refine G.iconst (v := (0 : Int32)) C dX10_partings_39 (by decide) ?_
        refine G.istore (L' := [(4, .int (0 : Int32)), (0, .ref (eA E 67)), (1, .int x1), (2, .int x2), (3, .int x3)]) C dX10_partings_40 rfl (by decide) rfl ?_
        exact G.sub [1, 2, 3, 4, 0] rfl (g_X10_partings_67_42 hE C hr  h)
      · have h := it_f h hc
        refine G.iconst (v := (0 : Int32)) C dX10_partings_37 (by decide) ?_
        cases h
        exact G.iret C hr dX10_partings_38
    · have h := it_t h hc
      exact G.sub [0, 1, 2, 3] rfl (gb_X10_partings_67_25 hE C hr  h)
def f_X10_partings_67 (x1 : Int32) (x2 : Int32) (x3 : Int32) (M : Mm) : Option (Int32 × Mm) := bb_X10_partings_67_0 x1 x2 x3 M
theorem s_X10_partings_67 {l : Launch} {E : Ev} {x1 : Int32} {x2 : Int32} {x3 : Int32} {M : Mm} {v : Int32} {M' : Mm} (hE : Has shM (eH E)) (h : f_X10_partings_67 x1 x2 x3 M = some (v, M')) : MetA l yX10_partings cX10_partings 6 (some .int) 13 E [.ref (eA E 67), .int x1, .int x2, .int x3] M (some (.int v)) M' := by
  refine MetA.of (by decide +kernel) (Nat.le_of_ble_eq_true rfl) ?_
  intro p e s m below meth c C hr hnm
  exact G.sub [0, 1, 2, 3] rfl (gb_X10_partings_67_0 hE C hr  h)
def bb_X10_canBe_67_23 (k_23 : Int32 → Mm → Option Int32) (x1 : Int32) (M : Mm) : Option Int32 := if (M.1 67 19) ≤ x1 then (some (1 : Int32)) else (gd (inb x1 16) (if (M.1 92 (ix x1)) = (M.1 67 23) then (gd (inb x1 16) (if ((M.2 91 (ix x1)) &&& (M.2 67 22)) = (0 : Int64) then (ltv (x1 + (1 : Int32)) fun x1_6 => k_23 x1_6 M) else (gd (inb x1 16) (bd (f_X10_beside (M.2 91 (ix x1))) fun v_9 => gd (inb x1 16) (if ((v_9 &&& ((M.2 91 (ix x1)) ^^^ (-1 : Int64))) &&& ((M.2 67 22) ^^^ (-1 : Int64))) = (0 : Int64) then (ltv (x1 + (1 : Int32)) fun x1_11 => k_23 x1_11 M) else (some (0 : Int32))))))) else (ltv (x1 + (1 : Int32)) fun x1_4 => k_23 x1_4 M)))
set_option maxHeartbeats 4000000 in
set_option maxRecDepth 100000 in
theorem gb_X10_canBe_67_23  {k_23 : Int32 → Mm → Option Int32} {x1 : Int32} {M : Mm} {v : Int32} (hE : Has shM (eH E)) (C : Cx RX10 cX10_canBe 2 p (rmD 3) s m args meth c E) (hr : meth.sig.returnType = (some .boolean)) (hk_23 : ∀ (x1 : Int32) (M : Mm), k_23 x1 M = some v → G p l e (rmD 3) s m args below meth c E 2 0 0 (QR below args s E 0 0 (some (.int v)) M) 23 [(0, .ref (eA E 67)), (1, .int x1)] [] M) (h : bb_X10_canBe_67_23 k_23 x1 M = some v) : G p l e (rmD 3) s m args below meth c E 2 0 0 (QR below args s E 0 0 (some (.int v)) M) 23 [(0, .ref (eA E 67)), (1, .int x1)] [] M := by
  unfold bb_X10_canBe_67_23 at h
  refine G.iload_n C 1 dX10_canBe_23 rfl rfl ?_
  refine G.aload_n C 0 dX10_canBe_24 rfl rfl ?_
  refine G.getI (k := 19) C k_X10 (sm_67 hE) rfl (by decide) tg_1450 dX10_canBe_25 ?_
  refine G.icmp_ge (tgt := 102) C dX10_canBe_28 (by decide) (fun hc => ?_) (fun hc => ?_)
  · have h := it_t h hc
    refine G.iconst (v := (1 : Int32)) C dX10_canBe_102 (by decide) ?_
    cases h
    exact G.zret C hr rfl dX10_canBe_103
  · have h := it_f h hc
    refine G.aload_n C 0 dX10_canBe_31 rfl rfl ?_
    refine G.getR (k := 21) C k_X10 (sm_67 hE) rfl (by decide) tg_1452 dX10_canBe_32 ?_
    refine G.iload_n C 1 dX10_canBe_35 rfl rfl ?_
    obtain ⟨hg_3, h⟩ := gd_ex h
    refine G.aI (j := ix x1) C (sm_92 hE) hg_3 rfl dX10_canBe_36 ?_
    refine G.aload_n C 0 dX10_canBe_37 rfl rfl ?_
    refine G.getI (k := 23) C k_X10 (sm_67 hE) rfl (by decide) tg_1454 dX10_canBe_38 ?_
    refine G.icmp_ne (tgt := 96) C dX10_canBe_41 (by decide) (fun hc => ?_) (fun hc => ?_)
    · have h := it_f h hc
      obtain ⟨x1_4, ex1_4, h⟩ := ltv_ex h
      refine G.iinc (L' := [(1, .int x1_4), (0, .ref (eA E 67))]) C 1 dX10_canBe_96 rfl (ex1_4.trans rfl) (by decide) rfl ?_
      refine G.goto (tgt := 23) C dX10_canBe_99 (by decide) ?_
      exact G.sub [1, 0] rfl (hk_23 _ _  h)
    · have h := it_t h hc
      refine G.aload_n C 0 dX10_canBe_44 rfl rfl ?_
      refine G.getR (k := 20) C k_X10 (sm_67 hE) rfl (by decide) tg_1451 dX10_canBe_45 ?_
      refine G.iload_n C 1 dX10_canBe_48 rfl rfl ?_
      obtain ⟨hg_5, h⟩ := gd_ex h
      refine G.aJ (j := ix x1) C (sm_91 hE) hg_5 rfl dX10_canBe_49 ?_
      refine G.aload_n C 0 dX10_canBe_50 rfl rfl ?_
      refine G.getJ (k := 22) C k_X10 (sm_67 hE) rfl (by decide) tg_1453 dX10_canBe_51 ?_
      refine G.land C dX10_canBe_54 ?_
      refine G.lconst (v := (0 : Int64)) C dX10_canBe_55 (by decide) ?_
      refine G.lcmp C dX10_canBe_56 (G.if_eq (tgt := 96) C dX10_canBe_57 (by decide) (fun hc => ?_) (fun hc => ?_))
      · have h := it_t h (lgc_eq.mp hc)
        obtain ⟨x1_6, ex1_6, h⟩ := ltv_ex h
        refine G.iinc (L' := [(1, .int x1_6), (0, .ref (eA E 67))]) C 1 dX10_canBe_96 rfl (ex1_6.trans rfl) (by decide) rfl ?_
        refine G.goto (tgt := 23) C dX10_canBe_99 (by decide) ?_
        exact G.sub [1, 0] rfl (hk_23 _ _  h)
      · have h := it_f h ((not_congr lgc_eq).mp hc)
        refine G.aload_n C 0 dX10_canBe_60 rfl rfl ?_
        refine G.getR (k := 20) C k_X10 (sm_67 hE) rfl (by decide) tg_1451 dX10_canBe_61 ?_
        refine G.iload_n C 1 dX10_canBe_64 rfl rfl ?_
        obtain ⟨hg_7, h⟩ := gd_ex h
        refine G.aJ (j := ix x1) C (sm_91 hE) hg_7 rfl dX10_canBe_65 ?_
        obtain ⟨v_9, hv_8, h⟩ := bd_ex h
        refine G.callS (rest := []) C (s_X10_beside  hv_8) ⟨tg_1683, tg_103, ok_X10_beside, Nat.le_of_ble_eq_true rfl, Nat.le_of_ble_eq_true rfl⟩ tg_1681 tg_1682 rfl (Nat.le_of_ble_eq_true rfl) dX10_canBe_66 ⟨Nat.le_refl 0, Nat.le_refl 0⟩ ?_
        refine G.aload_n C 0 dX10_canBe_69 rfl rfl ?_
        refine G.getR (k := 20) C k_X10 (sm_67 hE) rfl (by decide) tg_1451 dX10_canBe_70 ?_
        refine G.iload_n C 1 dX10_canBe_73 rfl rfl ?_
        obtain ⟨hg_10, h⟩ := gd_ex h
        refine G.aJ (j := ix x1) C (sm_91 hE) hg_10 rfl dX10_canBe_74 ?_
        refine G.ldc2 C tg_1655 dX10_canBe_75 ?_
        refine G.lxor C dX10_canBe_78 ?_
        refine G.land C dX10_canBe_79 ?_
        refine G.aload_n C 0 dX10_canBe_80 rfl rfl ?_
        refine G.getJ (k := 22) C k_X10 (sm_67 hE) rfl (by decide) tg_1453 dX10_canBe_81 ?_
        refine G.ldc2 C tg_1655 dX10_canBe_84 ?_
        refine G.lxor C dX10_canBe_87 ?_
        refine G.land C dX10_canBe_88 ?_
        refine G.lconst (v := (0 : Int64)) C dX10_canBe_89 (by decide) ?_
        refine G.lcmp C dX10_canBe_90 (G.if_eq (tgt := 96) C dX10_canBe_91 (by decide) (fun hc => ?_) (fun hc => ?_))
        · have h := it_t h (lgc_eq.mp hc)
          obtain ⟨x1_11, ex1_11, h⟩ := ltv_ex h
          refine G.iinc (L' := [(1, .int x1_11), (0, .ref (eA E 67))]) C 1 dX10_canBe_96 rfl (ex1_11.trans rfl) (by decide) rfl ?_
          refine G.goto (tgt := 23) C dX10_canBe_99 (by decide) ?_
          exact G.sub [1, 0] rfl (hk_23 _ _  h)
        · have h := it_f h ((not_congr lgc_eq).mp hc)
          refine G.iconst (v := (0 : Int32)) C dX10_canBe_94 (by decide) ?_
          cases h
          exact G.zret C hr rfl dX10_canBe_95
def b_X10_canBe_67_23 : Nat → Int32 → Mm → Option Int32
  | 0, _, _ => none
  | n + 1, x1, M => bb_X10_canBe_67_23 (b_X10_canBe_67_23 n) x1 M
set_option maxHeartbeats 4000000 in
theorem g_X10_canBe_67_23  {n : Nat} {x1 : Int32} {M : Mm} {v : Int32} (hE : Has shM (eH E)) (C : Cx RX10 cX10_canBe 2 p (rmD 3) s m args meth c E) (hr : meth.sig.returnType = (some .boolean)) (h : b_X10_canBe_67_23 n x1 M = some v) : G p l e (rmD 3) s m args below meth c E 2 0 0 (QR below args s E 0 0 (some (.int v)) M) 23 [(0, .ref (eA E 67)), (1, .int x1)] [] M := by
  induction n generalizing x1 M with
  | zero => cases h
  | succ n ih => exact gb_X10_canBe_67_23 hE C hr (fun _ _ => ih)  h
def bb_X10_canBe_67_0  (M : Mm) : Option Int32 := if (M.1 67 23) = (-1 : Int32) then (some (0 : Int32)) else (bd (f_X10_isGood_67 (M.1 67 23) M) fun v_2 => if v_2 = 0 then (some (0 : Int32)) else (b_X10_canBe_67_23 FU (0 : Int32) M))
set_option maxHeartbeats 4000000 in
set_option maxRecDepth 100000 in
theorem gb_X10_canBe_67_0   {M : Mm} {v : Int32} (hE : Has shM (eH E)) (C : Cx RX10 cX10_canBe 2 p (rmD 3) s m args meth c E) (hr : meth.sig.returnType = (some .boolean)) (h : bb_X10_canBe_67_0 M = some v) : G p l e (rmD 3) s m args below meth c E 2 0 0 (QR below args s E 0 0 (some (.int v)) M) 0 [(0, .ref (eA E 67))] [] M := by
  unfold bb_X10_canBe_67_0 at h
  refine G.aload_n C 0 dX10_canBe_0 rfl rfl ?_
  refine G.getI (k := 23) C k_X10 (sm_67 hE) rfl (by decide) tg_1454 dX10_canBe_1 ?_
  refine G.iconst (v := (-1 : Int32)) C dX10_canBe_4 (by decide) ?_
  refine G.icmp_eq (tgt := 19) C dX10_canBe_5 (by decide) (fun hc => ?_) (fun hc => ?_)
  · have h := it_t h hc
    refine G.iconst (v := (0 : Int32)) C dX10_canBe_19 (by decide) ?_
    cases h
    exact G.zret C hr rfl dX10_canBe_20
  · have h := it_f h hc
    refine G.aload_n C 0 dX10_canBe_8 rfl rfl ?_
    refine G.aload_n C 0 dX10_canBe_9 rfl rfl ?_
    refine G.getI (k := 23) C k_X10 (sm_67 hE) rfl (by decide) tg_1454 dX10_canBe_10 ?_
    obtain ⟨v_2, hv_1, h⟩ := bd_ex h
    refine G.callV (rest := []) C (s_X10_isGood_67 hE  hv_1) ⟨tg_1817, tg_103, ok_X10_isGood, Nat.le_of_ble_eq_true rfl, Nat.le_of_ble_eq_true rfl⟩ tg_1814 tg_1816 tg_73 (sm_67 hE) rfl rfl (Nat.le_of_ble_eq_true rfl) dX10_canBe_13 ⟨Nat.le_refl 0, Nat.le_refl 0⟩ ?_
    refine G.if_ne (tgt := 21) C dX10_canBe_16 (by decide) (fun hc => ?_) (fun hc => ?_)
    · have h := it_f h hc
      refine G.iconst (v := (0 : Int32)) C dX10_canBe_21 (by decide) ?_
      refine G.istore_n (L' := [(1, .int (0 : Int32)), (0, .ref (eA E 67))]) C dX10_canBe_22 rfl rfl (by decide) rfl ?_
      exact G.sub [1, 0] rfl (g_X10_canBe_67_23 hE C hr  h)
    · have h := it_t h hc
      refine G.iconst (v := (0 : Int32)) C dX10_canBe_19 (by decide) ?_
      cases h
      exact G.zret C hr rfl dX10_canBe_20
def f_X10_canBe_67  (M : Mm) : Option Int32 := bb_X10_canBe_67_0 M
theorem s_X10_canBe_67 {l : Launch} {E : Ev}  {M : Mm} {v : Int32} (hE : Has shM (eH E)) (h : f_X10_canBe_67 M = some v) : MetA l yX10_canBe cX10_canBe 2 (some .boolean) 3 E [.ref (eA E 67)] M (some (.int v)) M := by
  refine MetA.of (by decide +kernel) (Nat.le_of_ble_eq_true rfl) ?_
  intro p e s m below meth c C hr hnm
  exact G.sub [0] rfl (gb_X10_canBe_67_0 hE C hr  h)
def bb_X10_can_67_0  (M : Mm) : Option (Int32 × Mm) := ltv (wI M 67 0 (0 : Int32)) fun M_1 => bd (f_X10_canBe_67 M_1) fun v_3 => gd (isB v_3) (some (v_3, M_1))
set_option maxHeartbeats 4000000 in
set_option maxRecDepth 100000 in
theorem gb_X10_can_67_0   {M : Mm} {v : Int32} {M' : Mm} (hE : Has shM (eH E)) (C : Cx RX10 cX10_can 1 p (rmD 4) s m args meth c E) (hr : meth.sig.returnType = (some .boolean)) (h : bb_X10_can_67_0 M = some (v, M')) : G p l e (rmD 4) s m args below meth c E 1 0 0 (QR below args s E 0 0 (some (.int v)) M') 0 [(0, .ref (eA E 67))] [] M := by
  unfold bb_X10_can_67_0 at h
  refine G.aload_n C 0 dX10_can_0 rfl rfl ?_
  refine G.iconst (v := (0 : Int32)) C dX10_can_1 (by decide) ?_
  obtain ⟨M_1, eM_1, h⟩ := ltv_ex h
  refine G.putI (k := 0) C k_X10 (sm_67 hE) rfl (by decide) tg_1431 rfl rfl dX10_can_2 eM_1 ?_
  refine G.aload_n C 0 dX10_can_5 rfl rfl ?_
  obtain ⟨v_3, hv_2, h⟩ := bd_ex h
  refine G.callV (rest := []) C (s_X10_canBe_67 hE  hv_2) ⟨tg_1949, tg_103, ok_X10_canBe, Nat.le_of_ble_eq_true rfl, Nat.le_of_ble_eq_true rfl⟩ tg_1946 tg_1948 tg_86 (sm_67 hE) rfl rfl (Nat.le_of_ble_eq_true rfl) dX10_can_6 ⟨Nat.le_refl 0, Nat.le_refl 0⟩ ?_
  obtain ⟨hb_4, h⟩ := gd_ex h
  cases h
  exact G.zret C hr (nz_ok (isB_s hb_4)) dX10_can_9
def f_X10_can_67  (M : Mm) : Option (Int32 × Mm) := bb_X10_can_67_0 M
theorem s_X10_can_67 {l : Launch} {E : Ev}  {M : Mm} {v : Int32} {M' : Mm} (hE : Has shM (eH E)) (h : f_X10_can_67 M = some (v, M')) : MetA l yX10_can cX10_can 1 (some .boolean) 4 E [.ref (eA E 67)] M (some (.int v)) M' := by
  refine MetA.of (by decide +kernel) (Nat.le_of_ble_eq_true rfl) ?_
  intro p e s m below meth c C hr hnm
  exact G.sub [0] rfl (gb_X10_can_67_0 hE C hr  h)
def bb_X10_left_67_18 (k_18 : Int32 → Int32 → Mm → Option (Int32 × Mm)) (x1 : Int32) (x2 : Int32) (M : Mm) : Option (Int32 × Mm) := if (M.1 67 19) ≤ x2 then (gd (inb (M.1 67 23) 10) (bd (f_X10_findTakes_67 (M.2 72 (ix (M.1 67 23))) M) fun M_6 => gd (inb (M_6.1 67 23) 10) (bd (f_X10_reached (M_6.2 72 (ix (M_6.1 67 23)))) fun v_9 => bd2 (f_X10_fewestLines_67 (v_9 &&& (M_6.2 67 22)) (0 : Int32) (0 : Int32) M_6) fun v_12 M_11 => some (x1 + v_12, M_11)))) else (gd (inb x2 16) (if (M.1 92 (ix x2)) = (M.1 67 23) then (gd (inb x2 16) (if ((M.2 91 (ix x2)) &&& (M.2 67 22)) = (0 : Int64) then (ltv (x1 + (0 : Int32)) fun x1_17 => ltv (x2 + (1 : Int32)) fun x2_18 => k_18 x1_17 x2_18 M) else (ltv (x1 + (1 : Int32)) fun x1_19 => ltv (x2 + (1 : Int32)) fun x2_20 => k_18 x1_19 x2_20 M))) else (ltv (x1 + (0 : Int32)) fun x1_14 => ltv (x2 + (1 : Int32)) fun x2_15 => k_18 x1_14 x2_15 M)))
set_option maxHeartbeats 4000000 in
set_option maxRecDepth 100000 in
theorem gb_X10_left_67_18  {k_18 : Int32 → Int32 → Mm → Option (Int32 × Mm)} {x1 : Int32} {x2 : Int32} {M : Mm} {v : Int32} {M' : Mm} (hE : Has shM (eH E)) (C : Cx RX10 cX10_left 3 p (rmD 43) s m args meth c E) (hr : meth.sig.returnType = (some .int)) (hk_18 : ∀ (x1 : Int32) (x2 : Int32) (M : Mm), k_18 x1 x2 M = some (v, M') → G p l e (rmD 43) s m args below meth c E 3 0 0 (QR below args s E 0 0 (some (.int v)) M') 18 [(0, .ref (eA E 67)), (1, .int x1), (2, .int x2)] [] M) (h : bb_X10_left_67_18 k_18 x1 x2 M = some (v, M')) : G p l e (rmD 43) s m args below meth c E 3 0 0 (QR below args s E 0 0 (some (.int v)) M') 18 [(0, .ref (eA E 67)), (1, .int x1), (2, .int x2)] [] M := by
  unfold bb_X10_left_67_18 at h
  refine G.iload_n C 2 dX10_left_18 rfl rfl ?_
  refine G.aload_n C 0 dX10_left_19 rfl rfl ?_
  refine G.getI (k := 19) C k_X10 (sm_67 hE) rfl (by decide) tg_1450 dX10_left_20 ?_
  refine G.icmp_ge (tgt := 69) C dX10_left_23 (by decide) (fun hc => ?_) (fun hc => ?_)
  · have h := it_t h hc
    refine G.aload_n C 0 dX10_left_69 rfl rfl ?_
    refine G.aload_n C 0 dX10_left_70 rfl rfl ?_
    refine G.getR (k := 12) C k_X10 (sm_67 hE) rfl (by decide) tg_1443 dX10_left_71 ?_
    refine G.aload_n C 0 dX10_left_74 rfl rfl ?_
    refine G.getI (k := 23) C k_X10 (sm_67 hE) rfl (by decide) tg_1454 dX10_left_75 ?_
    obtain ⟨hg_4, h⟩ := gd_ex h
    refine G.aJ (j := ix (M.1 67 23)) C (sm_72 hE) hg_4 rfl dX10_left_78 ?_
    obtain ⟨M_6, hv_5, h⟩ := bd_ex h
    refine G.callV (rest := []) C (s_X10_findTakes_67 hE  hv_5) ⟨tg_1762, tg_103, ok_X10_findTakes, Nat.le_of_ble_eq_true rfl, Nat.le_of_ble_eq_true rfl⟩ tg_1759 tg_1761 tg_67 (sm_67 hE) rfl rfl (Nat.le_of_ble_eq_true rfl) dX10_left_79 ⟨Nat.le_refl 0, Nat.le_refl 0⟩ ?_
    refine G.iload_n C 1 dX10_left_82 rfl rfl ?_
    refine G.aload_n C 0 dX10_left_83 rfl rfl ?_
    refine G.aload_n C 0 dX10_left_84 rfl rfl ?_
    refine G.getR (k := 12) C k_X10 (sm_67 hE) rfl (by decide) tg_1443 dX10_left_85 ?_
    refine G.aload_n C 0 dX10_left_88 rfl rfl ?_
    refine G.getI (k := 23) C k_X10 (sm_67 hE) rfl (by decide) tg_1454 dX10_left_89 ?_
    obtain ⟨hg_7, h⟩ := gd_ex h
    refine G.aJ (j := ix (M_6.1 67 23)) C (sm_72 hE) hg_7 rfl dX10_left_92 ?_
    obtain ⟨v_9, hv_8, h⟩ := bd_ex h
    refine G.callS (rest := [.ref (eA E 67), .int x1]) C (s_X10_reached  hv_8) ⟨tg_1677, tg_103, ok_X10_reached, Nat.le_of_ble_eq_true rfl, Nat.le_of_ble_eq_true rfl⟩ tg_1675 tg_1676 rfl (Nat.le_of_ble_eq_true rfl) dX10_left_93 ⟨Nat.le_refl 0, Nat.le_refl 0⟩ ?_
    refine G.aload_n C 0 dX10_left_96 rfl rfl ?_
    refine G.getJ (k := 22) C k_X10 (sm_67 hE) rfl (by decide) tg_1453 dX10_left_97 ?_
    refine G.land C dX10_left_100 ?_
    refine G.iconst (v := (0 : Int32)) C dX10_left_101 (by decide) ?_
    refine G.iconst (v := (0 : Int32)) C dX10_left_102 (by decide) ?_
    obtain ⟨v_12, M_11, hv_10, h⟩ := bd2_ex h
    refine G.callV (rest := [.int x1]) C (s_X10_fewestLines_67 hE  hv_10) ⟨tg_1766, tg_103, ok_X10_fewestLines, Nat.le_of_ble_eq_true rfl, Nat.le_of_ble_eq_true rfl⟩ tg_1763 tg_1765 tg_68 (sm_67 hE) rfl rfl (Nat.le_of_ble_eq_true rfl) dX10_left_103 ⟨Nat.le_refl 0, Nat.le_refl 0⟩ ?_
    refine G.iadd C dX10_left_106 ?_
    cases h
    exact G.iret C hr dX10_left_107
  · have h := it_f h hc
    refine G.iload_n C 1 dX10_left_26 rfl rfl ?_
    refine G.aload_n C 0 dX10_left_27 rfl rfl ?_
    refine G.getR (k := 21) C k_X10 (sm_67 hE) rfl (by decide) tg_1452 dX10_left_28 ?_
    refine G.iload_n C 2 dX10_left_31 rfl rfl ?_
    obtain ⟨hg_13, h⟩ := gd_ex h
    refine G.aI (j := ix x2) C (sm_92 hE) hg_13 rfl dX10_left_32 ?_
    refine G.aload_n C 0 dX10_left_33 rfl rfl ?_
    refine G.getI (k := 23) C k_X10 (sm_67 hE) rfl (by decide) tg_1454 dX10_left_34 ?_
    refine G.icmp_ne (tgt := 60) C dX10_left_37 (by decide) (fun hc => ?_) (fun hc => ?_)
    · have h := it_f h hc
      refine G.iconst (v := (0 : Int32)) C dX10_left_60 (by decide) ?_
      refine G.iadd C dX10_left_61 ?_
      obtain ⟨x1_14, ex1_14, h⟩ := ltv_ex h
      refine G.istore_n (L' := [(1, .int x1_14), (0, .ref (eA E 67)), (2, .int x2)]) C dX10_left_62 rfl ex1_14 (by decide) rfl ?_
      obtain ⟨x2_15, ex2_15, h⟩ := ltv_ex h
      refine G.iinc (L' := [(2, .int x2_15), (1, .int x1_14), (0, .ref (eA E 67))]) C 2 dX10_left_63 rfl (ex2_15.trans rfl) (by decide) rfl ?_
      refine G.goto (tgt := 18) C dX10_left_66 (by decide) ?_
      exact G.sub [2, 1, 0] rfl (hk_18 _ _ _  h)
    · have h := it_t h hc
      refine G.aload_n C 0 dX10_left_40 rfl rfl ?_
      refine G.getR (k := 20) C k_X10 (sm_67 hE) rfl (by decide) tg_1451 dX10_left_41 ?_
      refine G.iload_n C 2 dX10_left_44 rfl rfl ?_
      obtain ⟨hg_16, h⟩ := gd_ex h
      refine G.aJ (j := ix x2) C (sm_91 hE) hg_16 rfl dX10_left_45 ?_
      refine G.aload_n C 0 dX10_left_46 rfl rfl ?_
      refine G.getJ (k := 22) C k_X10 (sm_67 hE) rfl (by decide) tg_1453 dX10_left_47 ?_
      refine G.land C dX10_left_50 ?_
      refine G.lconst (v := (0 : Int64)) C dX10_left_51 (by decide) ?_
      refine G.lcmp C dX10_left_52 (G.if_eq (tgt := 60) C dX10_left_53 (by decide) (fun hc => ?_) (fun hc => ?_))
      · have h := it_t h (lgc_eq.mp hc)
        refine G.iconst (v := (0 : Int32)) C dX10_left_60 (by decide) ?_
        refine G.iadd C dX10_left_61 ?_
        obtain ⟨x1_17, ex1_17, h⟩ := ltv_ex h
        refine G.istore_n (L' := [(1, .int x1_17), (0, .ref (eA E 67)), (2, .int x2)]) C dX10_left_62 rfl ex1_17 (by decide) rfl ?_
        obtain ⟨x2_18, ex2_18, h⟩ := ltv_ex h
        refine G.iinc (L' := [(2, .int x2_18), (1, .int x1_17), (0, .ref (eA E 67))]) C 2 dX10_left_63 rfl (ex2_18.trans rfl) (by decide) rfl ?_
        refine G.goto (tgt := 18) C dX10_left_66 (by decide) ?_
        exact G.sub [2, 1, 0] rfl (hk_18 _ _ _  h)
      · have h := it_f h ((not_congr lgc_eq).mp hc)
        refine G.iconst (v := (1 : Int32)) C dX10_left_56 (by decide) ?_
        refine G.goto (tgt := 61) C dX10_left_57 (by decide) ?_
        refine G.iadd C dX10_left_61 ?_
        obtain ⟨x1_19, ex1_19, h⟩ := ltv_ex h
        refine G.istore_n (L' := [(1, .int x1_19), (0, .ref (eA E 67)), (2, .int x2)]) C dX10_left_62 rfl ex1_19 (by decide) rfl ?_
        obtain ⟨x2_20, ex2_20, h⟩ := ltv_ex h
        refine G.iinc (L' := [(2, .int x2_20), (1, .int x1_19), (0, .ref (eA E 67))]) C 2 dX10_left_63 rfl (ex2_20.trans rfl) (by decide) rfl ?_
        refine G.goto (tgt := 18) C dX10_left_66 (by decide) ?_
        exact G.sub [2, 1, 0] rfl (hk_18 _ _ _  h)
def b_X10_left_67_18 : Nat → Int32 → Int32 → Mm → Option (Int32 × Mm)
  | 0, _, _, _ => none
  | n + 1, x1, x2, M => bb_X10_left_67_18 (b_X10_left_67_18 n) x1 x2 M
set_option maxHeartbeats 4000000 in
theorem g_X10_left_67_18  {n : Nat} {x1 : Int32} {x2 : Int32} {M : Mm} {v : Int32} {M' : Mm} (hE : Has shM (eH E)) (C : Cx RX10 cX10_left 3 p (rmD 43) s m args meth c E) (hr : meth.sig.returnType = (some .int)) (h : b_X10_left_67_18 n x1 x2 M = some (v, M')) : G p l e (rmD 43) s m args below meth c E 3 0 0 (QR below args s E 0 0 (some (.int v)) M') 18 [(0, .ref (eA E 67)), (1, .int x1), (2, .int x2)] [] M := by
  induction n generalizing x1 x2 M with
  | zero => cases h
  | succ n ih => exact gb_X10_left_67_18 hE C hr (fun _ _ _ => ih)  h
def bb_X10_left_67_0  (M : Mm) : Option (Int32 × Mm) := ltv (wI M 67 0 (0 : Int32)) fun M_1 => bd (f_X10_canBe_67 M_1) fun v_3 => if v_3 = 0 then (some ((-1 : Int32), M_1)) else (b_X10_left_67_18 FU (0 : Int32) (0 : Int32) M_1)
set_option maxHeartbeats 4000000 in
set_option maxRecDepth 100000 in
theorem gb_X10_left_67_0   {M : Mm} {v : Int32} {M' : Mm} (hE : Has shM (eH E)) (C : Cx RX10 cX10_left 3 p (rmD 43) s m args meth c E) (hr : meth.sig.returnType = (some .int)) (h : bb_X10_left_67_0 M = some (v, M')) : G p l e (rmD 43) s m args below meth c E 3 0 0 (QR below args s E 0 0 (some (.int v)) M') 0 [(0, .ref (eA E 67))] [] M := by
  unfold bb_X10_left_67_0 at h
  refine G.aload_n C 0 dX10_left_0 rfl rfl ?_
  refine G.iconst (v := (0 : Int32)) C dX10_left_1 (by decide) ?_
  obtain ⟨M_1, eM_1, h⟩ := ltv_ex h
  refine G.putI (k := 0) C k_X10 (sm_67 hE) rfl (by decide) tg_1431 rfl rfl dX10_left_2 eM_1 ?_
  refine G.aload_n C 0 dX10_left_5 rfl rfl ?_
  obtain ⟨v_3, hv_2, h⟩ := bd_ex h
  refine G.callV (rest := []) C (s_X10_canBe_67 hE  hv_2) ⟨tg_1949, tg_103, ok_X10_canBe, Nat.le_of_ble_eq_true rfl, Nat.le_of_ble_eq_true rfl⟩ tg_1946 tg_1948 tg_86 (sm_67 hE) rfl rfl (Nat.le_of_ble_eq_true rfl) dX10_left_6 ⟨Nat.le_refl 0, Nat.le_refl 0⟩ ?_
  refine G.if_ne (tgt := 14) C dX10_left_9 (by decide) (fun hc => ?_) (fun hc => ?_)
  · have h := it_f h hc
    refine G.iconst (v := (0 : Int32)) C dX10_left_14 (by decide) ?_
    refine G.istore_n (L' := [(1, .int (0 : Int32)), (0, .ref (eA E 67))]) C dX10_left_15 rfl rfl (by decide) rfl ?_
    refine G.iconst (v := (0 : Int32)) C dX10_left_16 (by decide) ?_
    refine G.istore_n (L' := [(2, .int (0 : Int32)), (1, .int (0 : Int32)), (0, .ref (eA E 67))]) C dX10_left_17 rfl rfl (by decide) rfl ?_
    exact G.sub [2, 1, 0] rfl (g_X10_left_67_18 hE C hr  h)
  · have h := it_t h hc
    refine G.iconst (v := (-1 : Int32)) C dX10_left_12 (by decide) ?_
    cases h
    exact G.iret C hr dX10_left_13
def f_X10_left_67  (M : Mm) : Option (Int32 × Mm) := bb_X10_left_67_0 M
theorem s_X10_left_67 {l : Launch} {E : Ev}  {M : Mm} {v : Int32} {M' : Mm} (hE : Has shM (eH E)) (h : f_X10_left_67 M = some (v, M')) : MetA l yX10_left cX10_left 3 (some .int) 43 E [.ref (eA E 67)] M (some (.int v)) M' := by
  refine MetA.of (by decide +kernel) (Nat.le_of_ble_eq_true rfl) ?_
  intro p e s m below meth c C hr hnm
  exact G.sub [0] rfl (gb_X10_left_67_0 hE C hr  h)
def bb_X10_nearest_67_45 (k_45 : Int64 → Int32 → Int32 → Int32 → Int32 → Int32 → Mm → Option (Int32 × Mm)) (x1 : Int64) (x3 : Int32) (x4 : Int32) (x5 : Int32) (x6 : Int32) (x7 : Int32) (M : Mm) : Option (Int32 × Mm) := if (M.1 67 19) ≤ x7 then (if x4 = 0 then (some (x5, M)) else (some (x6, M))) else (gd (inb x7 16) (bd (f_X10_apartOf (M.2 91 (ix x7)) x1 x3) fun v_9 => if x5 = (-1 : Int32) then (ltv (x7 + (1 : Int32)) fun x7_10 => k_45 x1 x3 x4 x7 v_9 x7_10 M) else (if v_9 < x6 then (ltv (x7 + (1 : Int32)) fun x7_11 => k_45 x1 x3 x4 x7 v_9 x7_11 M) else (ltv (x7 + (1 : Int32)) fun x7_12 => k_45 x1 x3 x4 x5 x6 x7_12 M))))
set_option maxHeartbeats 4000000 in
set_option maxRecDepth 100000 in
theorem gb_X10_nearest_67_45  {k_45 : Int64 → Int32 → Int32 → Int32 → Int32 → Int32 → Mm → Option (Int32 × Mm)} {x1 : Int64} {x3 : Int32} {x4 : Int32} {x5 : Int32} {x6 : Int32} {x7 : Int32} {M : Mm} {v : Int32} {M' : Mm} (hE : Has shM (eH E)) (C : Cx RX10 cX10_nearest 9 p (rmD 4) s m args meth c E) (hr : meth.sig.returnType = (some .int)) (hk_45 : ∀ (x1 : Int64) (x3 : Int32) (x4 : Int32) (x5 : Int32) (x6 : Int32) (x7 : Int32) (M : Mm), k_45 x1 x3 x4 x5 x6 x7 M = some (v, M') → G p l e (rmD 4) s m args below meth c E 9 0 0 (QR below args s E 0 0 (some (.int v)) M') 45 [(0, .ref (eA E 67)), (1, .long x1), (3, .int x3), (4, .int x4), (5, .int x5), (6, .int x6), (7, .int x7)] [] M) (h : bb_X10_nearest_67_45 k_45 x1 x3 x4 x5 x6 x7 M = some (v, M')) : G p l e (rmD 4) s m args below meth c E 9 0 0 (QR below args s E 0 0 (some (.int v)) M') 45 [(0, .ref (eA E 67)), (1, .long x1), (3, .int x3), (4, .int x4), (5, .int x5), (6, .int x6), (7, .int x7)] [] M := by
  unfold bb_X10_nearest_67_45 at h
  refine G.iload C 6 dX10_nearest_45 rfl ?_
  refine G.aload_n C 0 dX10_nearest_47 rfl rfl ?_
  refine G.getI (k := 19) C k_X10 (sm_67 hE) rfl (by decide) tg_1450 dX10_nearest_48 ?_
  refine G.icmp_ge (tgt := 98) C dX10_nearest_51 (by decide) (fun hc => ?_) (fun hc => ?_)
  · have h := it_t h hc
    refine G.iload C 3 dX10_nearest_98 rfl ?_
    refine G.if_ne (tgt := 108) C dX10_nearest_100 (by decide) (fun hc => ?_) (fun hc => ?_)
    · have h := it_f h hc
      refine G.iload C 5 dX10_nearest_108 rfl ?_
      cases h
      exact G.iret C hr dX10_nearest_110
    · have h := it_t h hc
      refine G.iload C 4 dX10_nearest_103 rfl ?_
      refine G.goto (tgt := 110) C dX10_nearest_105 (by decide) ?_
      cases h
      exact G.iret C hr dX10_nearest_110
  · have h := it_f h hc
    refine G.aload_n C 0 dX10_nearest_54 rfl rfl ?_
    refine G.getR (k := 20) C k_X10 (sm_67 hE) rfl (by decide) tg_1451 dX10_nearest_55 ?_
    refine G.iload C 6 dX10_nearest_58 rfl ?_
    obtain ⟨hg_7, h⟩ := gd_ex h
    refine G.aJ (j := ix x7) C (sm_91 hE) hg_7 rfl dX10_nearest_60 ?_
    refine G.lload_n C 1 dX10_nearest_61 rfl rfl ?_
    refine G.iload_n C 2 dX10_nearest_62 rfl rfl ?_
    obtain ⟨v_9, hv_8, h⟩ := bd_ex h
    refine G.callS (rest := []) C (s_X10_apartOf  hv_8) ⟨tg_1736, tg_103, ok_X10_apartOf, Nat.le_of_ble_eq_true rfl, Nat.le_of_ble_eq_true rfl⟩ tg_1734 tg_1735 rfl (Nat.le_of_ble_eq_true rfl) dX10_nearest_63 ⟨Nat.le_refl 0, Nat.le_refl 0⟩ ?_
    refine G.istore (L' := [(8, .int v_9), (0, .ref (eA E 67)), (1, .long x1), (3, .int x3), (4, .int x4), (5, .int x5), (6, .int x6), (7, .int x7)]) C dX10_nearest_66 rfl (by decide) rfl ?_
    refine G.iload C 5 dX10_nearest_68 rfl ?_
    refine G.iconst (v := (-1 : Int32)) C dX10_nearest_70 (by decide) ?_
    refine G.icmp_eq (tgt := 84) C dX10_nearest_71 (by decide) (fun hc => ?_) (fun hc => ?_)
    · have h := it_t h hc
      refine G.iload C 7 dX10_nearest_84 rfl ?_
      refine G.istore (L' := [(5, .int x7), (8, .int v_9), (0, .ref (eA E 67)), (1, .long x1), (3, .int x3), (4, .int x4), (6, .int x6), (7, .int x7)]) C dX10_nearest_86 rfl (by decide) rfl ?_
      refine G.iload C 1 dX10_nearest_88 rfl ?_
      refine G.istore (L' := [(6, .int v_9), (5, .int x7), (8, .int v_9), (0, .ref (eA E 67)), (1, .long x1), (3, .int x3), (4, .int x4), (7, .int x7)]) C dX10_nearest_90 rfl (by decide) rfl ?_
      obtain ⟨x7_10, ex7_10, h⟩ := ltv_ex h
      refine G.iinc (L' := [(7, .int x7_10), (6, .int v_9), (5, .int x7), (8, .int v_9), (0, .ref (eA E 67)), (1, .long x1), (3, .int x3), (4, .int x4)]) C 7 dX10_nearest_92 rfl (ex7_10.trans rfl) (by decide) rfl ?_
      refine G.goto (tgt := 45) C dX10_nearest_95 (by decide) ?_
      exact G.sub [4, 5, 6, 7, 2, 1, 0] rfl (hk_45 _ _ _ _ _ _ _  h)
    · have h := it_f h hc
      refine G.iload C 0 dX10_nearest_74 rfl ?_
      refine G.iload C 6 dX10_nearest_76 rfl ?_
      refine G.icmp_lt (tgt := 84) C dX10_nearest_78 (by decide) (fun hc => ?_) (fun hc => ?_)
      · have h := it_t h hc
        refine G.iload C 7 dX10_nearest_84 rfl ?_
        refine G.istore (L' := [(5, .int x7), (8, .int v_9), (0, .ref (eA E 67)), (1, .long x1), (3, .int x3), (4, .int x4), (6, .int x6), (7, .int x7)]) C dX10_nearest_86 rfl (by decide) rfl ?_
        refine G.iload C 1 dX10_nearest_88 rfl ?_
        refine G.istore (L' := [(6, .int v_9), (5, .int x7), (8, .int v_9), (0, .ref (eA E 67)), (1, .long x1), (3, .int x3), (4, .int x4), (7, .int x7)]) C dX10_nearest_90 rfl (by decide) rfl ?_
        obtain ⟨x7_11, ex7_11, h⟩ := ltv_ex h
        refine G.iinc (L' := [(7, .int x7_11), (6, .int v_9), (5, .int x7), (8, .int v_9), (0, .ref (eA E 67)), (1, .long x1), (3, .int x3), (4, .int x4)]) C 7 dX10_nearest_92 rfl (ex7_11.trans rfl) (by decide) rfl ?_
        refine G.goto (tgt := 45) C dX10_nearest_95 (by decide) ?_
        exact G.sub [4, 5, 6, 7, 2, 1, 0] rfl (hk_45 _ _ _ _ _ _ _  h)
      · have h := it_f h hc
        refine G.goto (tgt := 92) C dX10_nearest_81 (by decide) ?_
        obtain ⟨x7_12, ex7_12, h⟩ := ltv_ex h
        refine G.iinc (L' := [(7, .int x7_12), (8, .int v_9), (0, .ref (eA E 67)), (1, .long x1), (3, .int x3), (4, .int x4), (5, .int x5), (6, .int x6)]) C 7 dX10_nearest_92 rfl (ex7_12.trans rfl) (by decide) rfl ?_
        refine G.goto (tgt := 45) C dX10_nearest_95 (by decide) ?_
        exact G.sub [2, 3, 4, 5, 6, 7, 0] rfl (hk_45 _ _ _ _ _ _ _  h)
def b_X10_nearest_67_45 : Nat → Int64 → Int32 → Int32 → Int32 → Int32 → Int32 → Mm → Option (Int32 × Mm)
  | 0, _, _, _, _, _, _, _ => none
  | n + 1, x1, x3, x4, x5, x6, x7, M => bb_X10_nearest_67_45 (b_X10_nearest_67_45 n) x1 x3 x4 x5 x6 x7 M
set_option maxHeartbeats 4000000 in
theorem g_X10_nearest_67_45  {n : Nat} {x1 : Int64} {x3 : Int32} {x4 : Int32} {x5 : Int32} {x6 : Int32} {x7 : Int32} {M : Mm} {v : Int32} {M' : Mm} (hE : Has shM (eH E)) (C : Cx RX10 cX10_nearest 9 p (rmD 4) s m args meth c E) (hr : meth.sig.returnType = (some .int)) (h : b_X10_nearest_67_45 n x1 x3 x4 x5 x6 x7 M = some (v, M')) : G p l e (rmD 4) s m args below meth c E 9 0 0 (QR below args s E 0 0 (some (.int v)) M') 45 [(0, .ref (eA E 67)), (1, .long x1), (3, .int x3), (4, .int x4), (5, .int x5), (6, .int x6), (7, .int x7)] [] M := by
  induction n generalizing x1 x3 x4 x5 x6 x7 M with
  | zero => cases h
  | succ n ih => exact gb_X10_nearest_67_45 hE C hr (fun _ _ _ _ _ _ _ => ih)  h
def bb_X10_nearest_67_27 (x1 : Int64) (x3 : Int32) (x4 : Int32) (s1 : Int32) (M : Mm) : Option (Int32 × Mm) := bd2 (f_X10_bad_67 s1 (1 : Int32) M) fun v_6 M_5 => if v_6 = 0 then (b_X10_nearest_67_45 FU x1 x3 x4 (-1 : Int32) (-1 : Int32) (0 : Int32) M_5) else (some ((0 : Int32), M_5))
set_option maxHeartbeats 4000000 in
set_option maxRecDepth 100000 in
theorem gb_X10_nearest_67_27  {x1 : Int64} {x3 : Int32} {x4 : Int32} {s1 : Int32} {M : Mm} {v : Int32} {M' : Mm} (hE : Has shM (eH E)) (C : Cx RX10 cX10_nearest 9 p (rmD 4) s m args meth c E) (hr : meth.sig.returnType = (some .int)) (h : bb_X10_nearest_67_27 x1 x3 x4 s1 M = some (v, M')) : G p l e (rmD 4) s m args below meth c E 9 0 0 (QR below args s E 0 0 (some (.int v)) M') 27 [(0, .ref (eA E 67)), (1, .long x1), (3, .int x3), (4, .int x4)] [.int s1, .ref (eA E 67)] M := by
  unfold bb_X10_nearest_67_27 at h
  refine G.iconst (v := (1 : Int32)) C dX10_nearest_27 (by decide) ?_
  obtain ⟨v_6, M_5, hv_4, h⟩ := bd2_ex h
  refine G.callV (rest := []) C (s_X10_bad_67 hE  hv_4) ⟨tg_1600, tg_103, ok_X10_bad, Nat.le_of_ble_eq_true rfl, Nat.le_of_ble_eq_true rfl⟩ tg_1597 tg_1599 tg_46 (sm_67 hE) rfl rfl (Nat.le_of_ble_eq_true rfl) dX10_nearest_28 ⟨Nat.le_refl 0, Nat.le_refl 0⟩ ?_
  refine G.if_eq (tgt := 36) C dX10_nearest_31 (by decide) (fun hc => ?_) (fun hc => ?_)
  · have h := it_t h hc
    refine G.iconst (v := (-1 : Int32)) C dX10_nearest_36 (by decide) ?_
    refine G.istore (L' := [(5, .int (-1 : Int32)), (0, .ref (eA E 67)), (1, .long x1), (3, .int x3), (4, .int x4)]) C dX10_nearest_37 rfl (by decide) rfl ?_
    refine G.iconst (v := (-1 : Int32)) C dX10_nearest_39 (by decide) ?_
    refine G.istore (L' := [(6, .int (-1 : Int32)), (5, .int (-1 : Int32)), (0, .ref (eA E 67)), (1, .long x1), (3, .int x3), (4, .int x4)]) C dX10_nearest_40 rfl (by decide) rfl ?_
    refine G.iconst (v := (0 : Int32)) C dX10_nearest_42 (by decide) ?_
    refine G.istore (L' := [(7, .int (0 : Int32)), (6, .int (-1 : Int32)), (5, .int (-1 : Int32)), (0, .ref (eA E 67)), (1, .long x1), (3, .int x3), (4, .int x4)]) C dX10_nearest_43 rfl (by decide) rfl ?_
    exact G.sub [3, 4, 5, 6, 2, 1, 0] rfl (g_X10_nearest_67_45 hE C hr  h)
  · have h := it_f h hc
    refine G.iconst (v := (0 : Int32)) C dX10_nearest_34 (by decide) ?_
    cases h
    exact G.iret C hr dX10_nearest_35
def bb_X10_nearest_67_22 (x1 : Int64) (x3 : Int32) (x4 : Int32) (M : Mm) : Option (Int32 × Mm) := bb_X10_nearest_67_27 x1 x3 x4 (1 : Int32) M
set_option maxHeartbeats 4000000 in
set_option maxRecDepth 100000 in
theorem gb_X10_nearest_67_22  {x1 : Int64} {x3 : Int32} {x4 : Int32} {M : Mm} {v : Int32} {M' : Mm} (hE : Has shM (eH E)) (C : Cx RX10 cX10_nearest 9 p (rmD 4) s m args meth c E) (hr : meth.sig.returnType = (some .int)) (h : bb_X10_nearest_67_22 x1 x3 x4 M = some (v, M')) : G p l e (rmD 4) s m args below meth c E 9 0 0 (QR below args s E 0 0 (some (.int v)) M') 22 [(0, .ref (eA E 67)), (1, .long x1), (3, .int x3), (4, .int x4)] [.ref (eA E 67)] M := by
  unfold bb_X10_nearest_67_22 at h
  refine G.iconst (v := (1 : Int32)) C dX10_nearest_22 (by decide) ?_
  refine G.goto (tgt := 27) C dX10_nearest_23 (by decide) ?_
  exact G.sub [0, 1, 2, 3] rfl (gb_X10_nearest_67_27 hE C hr  h)
def bb_X10_nearest_67_0 (x1 : Int64) (x3 : Int32) (x4 : Int32) (M : Mm) : Option (Int32 × Mm) := ltv (wI M 67 0 (0 : Int32)) fun M_1 => if x1 = (0 : Int64) then (bb_X10_nearest_67_22 x1 x3 x4 M_1) else (bd (f_X10_in x4 (0 : Int32) (1 : Int32)) fun v_3 => if v_3 = 0 then (bb_X10_nearest_67_22 x1 x3 x4 M_1) else (bb_X10_nearest_67_27 x1 x3 x4 (0 : Int32) M_1))
set_option maxHeartbeats 4000000 in
set_option maxRecDepth 100000 in
theorem gb_X10_nearest_67_0  {x1 : Int64} {x3 : Int32} {x4 : Int32} {M : Mm} {v : Int32} {M' : Mm} (hE : Has shM (eH E)) (C : Cx RX10 cX10_nearest 9 p (rmD 4) s m args meth c E) (hr : meth.sig.returnType = (some .int)) (h : bb_X10_nearest_67_0 x1 x3 x4 M = some (v, M')) : G p l e (rmD 4) s m args below meth c E 9 0 0 (QR below args s E 0 0 (some (.int v)) M') 0 [(0, .ref (eA E 67)), (1, .long x1), (3, .int x3), (4, .int x4)] [] M := by
  unfold bb_X10_nearest_67_0 at h
  refine G.aload_n C 0 dX10_nearest_0 rfl rfl ?_
  refine G.iconst (v := (0 : Int32)) C dX10_nearest_1 (by decide) ?_
  obtain ⟨M_1, eM_1, h⟩ := ltv_ex h
  refine G.putI (k := 0) C k_X10 (sm_67 hE) rfl (by decide) tg_1431 rfl rfl dX10_nearest_2 eM_1 ?_
  refine G.aload_n C 0 dX10_nearest_5 rfl rfl ?_
  refine G.lload_n C 1 dX10_nearest_6 rfl rfl ?_
  refine G.lconst (v := (0 : Int64)) C dX10_nearest_7 (by decide) ?_
  refine G.lcmp C dX10_nearest_8 (G.if_eq (tgt := 22) C dX10_nearest_9 (by decide) (fun hc => ?_) (fun hc => ?_))
  · have h := it_t h (lgc_eq.mp hc)
    exact G.sub [0, 1, 2, 3] rfl (gb_X10_nearest_67_22 hE C hr  h)
  · have h := it_f h ((not_congr lgc_eq).mp hc)
    refine G.iload C 3 dX10_nearest_12 rfl ?_
    refine G.iconst (v := (0 : Int32)) C dX10_nearest_14 (by decide) ?_
    refine G.iconst (v := (1 : Int32)) C dX10_nearest_15 (by decide) ?_
    obtain ⟨v_3, hv_2, h⟩ := bd_ex h
    refine G.callS (rest := [.ref (eA E 67)]) C (s_X10_in  hv_2) ⟨tg_1596, tg_103, ok_X10_in, Nat.le_of_ble_eq_true rfl, Nat.le_of_ble_eq_true rfl⟩ tg_1594 tg_1595 rfl (Nat.le_of_ble_eq_true rfl) dX10_nearest_16 ⟨Nat.le_refl 0, Nat.le_refl 0⟩ ?_
    refine G.if_ne (tgt := 26) C dX10_nearest_19 (by decide) (fun hc => ?_) (fun hc => ?_)
    · have h := it_f h hc
      refine G.iconst (v := (0 : Int32)) C dX10_nearest_26 (by decide) ?_
      exact G.sub [0, 1, 2, 3] rfl (gb_X10_nearest_67_27 hE C hr  h)
    · have h := it_t h hc
      exact G.sub [0, 1, 2, 3] rfl (gb_X10_nearest_67_22 hE C hr  h)
def f_X10_nearest_67 (x1 : Int64) (x3 : Int32) (x4 : Int32) (M : Mm) : Option (Int32 × Mm) := bb_X10_nearest_67_0 x1 x3 x4 M
theorem s_X10_nearest_67 {l : Launch} {E : Ev} {x1 : Int64} {x3 : Int32} {x4 : Int32} {M : Mm} {v : Int32} {M' : Mm} (hE : Has shM (eH E)) (h : f_X10_nearest_67 x1 x3 x4 M = some (v, M')) : MetA l yX10_nearest cX10_nearest 9 (some .int) 4 E [.ref (eA E 67), .long x1, .int x3, .int x4] M (some (.int v)) M' := by
  refine MetA.of (by decide +kernel) (Nat.le_of_ble_eq_true rfl) ?_
  intro p e s m below meth c C hr hnm
  exact G.sub [0, 1, 2, 3] rfl (gb_X10_nearest_67_0 hE C hr  h)
def bb_X10_originals_67_125 (k_34 : Int32 → Int32 → Int32 → Int32 → Mm → Option (Int32 × Mm)) (x1 : Int32) (x2 : Int32) (x3 : Int32) (x4 : Int32) (x5 : Int32) (M : Mm) : Option (Int32 × Mm) := if x5 = 0 then (ltv (x3 ||| (0 : Int32)) fun x3_18 => ltv (x4 + (1 : Int32)) fun x4_19 => k_34 x1 x2 x3_18 x4_19 M) else (ltv (x3 ||| (shI (1 : Int32) x4)) fun x3_20 => ltv (x4 + (1 : Int32)) fun x4_21 => k_34 x1 x2 x3_20 x4_21 M)
set_option maxHeartbeats 4000000 in
set_option maxRecDepth 100000 in
theorem gb_X10_originals_67_125  {k_34 : Int32 → Int32 → Int32 → Int32 → Mm → Option (Int32 × Mm)} {x1 : Int32} {x2 : Int32} {x3 : Int32} {x4 : Int32} {x5 : Int32} {M : Mm} {v : Int32} {M' : Mm} (hE : Has shM (eH E)) (C : Cx RX10 cX10_originals 7 p (rmD 4) s m args meth c E) (hr : meth.sig.returnType = (some .int)) (hk_34 : ∀ (x1 : Int32) (x2 : Int32) (x3 : Int32) (x4 : Int32) (M : Mm), k_34 x1 x2 x3 x4 M = some (v, M') → G p l e (rmD 4) s m args below meth c E 7 0 0 (QR below args s E 0 0 (some (.int v)) M') 34 [(0, .ref (eA E 67)), (1, .int x1), (2, .int x2), (3, .int x3), (4, .int x4)] [] M) (h : bb_X10_originals_67_125 k_34 x1 x2 x3 x4 x5 M = some (v, M')) : G p l e (rmD 4) s m args below meth c E 7 0 0 (QR below args s E 0 0 (some (.int v)) M') 125 [(0, .ref (eA E 67)), (1, .int x1), (2, .int x2), (3, .int x3), (4, .int x4), (5, .int x5)] [] M := by
  unfold bb_X10_originals_67_125 at h
  refine G.iload_n C 3 dX10_originals_125 rfl rfl ?_
  refine G.iload C 5 dX10_originals_126 rfl ?_
  refine G.if_eq (tgt := 138) C dX10_originals_128 (by decide) (fun hc => ?_) (fun hc => ?_)
  · have h := it_t h hc
    refine G.iconst (v := (0 : Int32)) C dX10_originals_138 (by decide) ?_
    refine G.ior C dX10_originals_139 ?_
    obtain ⟨x3_18, ex3_18, h⟩ := ltv_ex h
    refine G.istore_n (L' := [(3, .int x3_18), (0, .ref (eA E 67)), (1, .int x1), (2, .int x2), (4, .int x4), (5, .int x5)]) C dX10_originals_140 rfl ex3_18 (by decide) rfl ?_
    obtain ⟨x4_19, ex4_19, h⟩ := ltv_ex h
    refine G.iinc (L' := [(4, .int x4_19), (3, .int x3_18), (0, .ref (eA E 67)), (1, .int x1), (2, .int x2), (5, .int x5)]) C 4 dX10_originals_141 rfl (ex4_19.trans rfl) (by decide) rfl ?_
    refine G.goto (tgt := 34) C dX10_originals_144 (by decide) ?_
    exact G.sub [2, 3, 4, 1, 0] rfl (hk_34 _ _ _ _ _  h)
  · have h := it_f h hc
    refine G.iconst (v := (1 : Int32)) C dX10_originals_131 (by decide) ?_
    refine G.iload C 4 dX10_originals_132 rfl ?_
    refine G.isl C dX10_originals_134 ?_
    refine G.goto (tgt := 139) C dX10_originals_135 (by decide) ?_
    refine G.ior C dX10_originals_139 ?_
    obtain ⟨x3_20, ex3_20, h⟩ := ltv_ex h
    refine G.istore_n (L' := [(3, .int x3_20), (0, .ref (eA E 67)), (1, .int x1), (2, .int x2), (4, .int x4), (5, .int x5)]) C dX10_originals_140 rfl ex3_20 (by decide) rfl ?_
    obtain ⟨x4_21, ex4_21, h⟩ := ltv_ex h
    refine G.iinc (L' := [(4, .int x4_21), (3, .int x3_20), (0, .ref (eA E 67)), (1, .int x1), (2, .int x2), (5, .int x5)]) C 4 dX10_originals_141 rfl (ex4_21.trans rfl) (by decide) rfl ?_
    refine G.goto (tgt := 34) C dX10_originals_144 (by decide) ?_
    exact G.sub [2, 3, 4, 1, 0] rfl (hk_34 _ _ _ _ _  h)
def bb_X10_originals_67_67 (k_34 : Int32 → Int32 → Int32 → Int32 → Mm → Option (Int32 × Mm)) (k_67 : Int32 → Int32 → Int32 → Int32 → Int32 → Int32 → Mm → Option (Int32 × Mm)) (x1 : Int32) (x2 : Int32) (x3 : Int32) (x4 : Int32) (x5 : Int32) (x6 : Int32) (M : Mm) : Option (Int32 × Mm) := if x4 ≤ x6 then (bb_X10_originals_67_125 k_34 x1 x2 x3 x4 x5 M) else (if x5 = 0 then (bb_X10_originals_67_125 k_34 x1 x2 x3 x4 x5 M) else (gd (inb x6 10) (if (M.2 72 (ix x6)) = (0 : Int64) then (ltv (x6 + (1 : Int32)) fun x6_11 => k_67 x1 x2 x3 x4 (1 : Int32) x6_11 M) else (gd (inb x6 10) (gd (inb x4 10) (bd (f_X10_apartOf (M.2 72 (ix x6)) (M.2 72 (ix x4)) x1) fun v_15 => if v_15 ≤ 0 then (ltv (x6 + (1 : Int32)) fun x6_16 => k_67 x1 x2 x3 x4 (0 : Int32) x6_16 M) else (ltv (x6 + (1 : Int32)) fun x6_17 => k_67 x1 x2 x3 x4 (1 : Int32) x6_17 M)))))))
set_option maxHeartbeats 4000000 in
set_option maxRecDepth 100000 in
theorem gb_X10_originals_67_67  {k_34 : Int32 → Int32 → Int32 → Int32 → Mm → Option (Int32 × Mm)} {k_67 : Int32 → Int32 → Int32 → Int32 → Int32 → Int32 → Mm → Option (Int32 × Mm)} {x1 : Int32} {x2 : Int32} {x3 : Int32} {x4 : Int32} {x5 : Int32} {x6 : Int32} {M : Mm} {v : Int32} {M' : Mm} (hE : Has shM (eH E)) (C : Cx RX10 cX10_originals 7 p (rmD 4) s m args meth c E) (hr : meth.sig.returnType = (some .int)) (hk_34 : ∀ (x1 : Int32) (x2 : Int32) (x3 : Int32) (x4 : Int32) (M : Mm), k_34 x1 x2 x3 x4 M = some (v, M') → G p l e (rmD 4) s m args below meth c E 7 0 0 (QR below args s E 0 0 (some (.int v)) M') 34 [(0, .ref (eA E 67)), (1, .int x1), (2, .int x2), (3, .int x3), (4, .int x4)] [] M) (hk_67 : ∀ (x1 : Int32) (x2 : Int32) (x3 : Int32) (x4 : Int32) (x5 : Int32) (x6 : Int32) (M : Mm), k_67 x1 x2 x3 x4 x5 x6 M = some (v, M') → G p l e (rmD 4) s m args below meth c E 7 0 0 (QR below args s E 0 0 (some (.int v)) M') 67 [(0, .ref (eA E 67)), (1, .int x1), (2, .int x2), (3, .int x3), (4, .int x4), (5, .int x5), (6, .int x6)] [] M) (h : bb_X10_originals_67_67 k_34 k_67 x1 x2 x3 x4 x5 x6 M = some (v, M')) : G p l e (rmD 4) s m args below meth c E 7 0 0 (QR below args s E 0 0 (some (.int v)) M') 67 [(0, .ref (eA E 67)), (1, .int x1), (2, .int x2), (3, .int x3), (4, .int x4), (5, .int x5), (6, .int x6)] [] M := by
  unfold bb_X10_originals_67_67 at h
  refine G.iload C 6 dX10_originals_67 rfl ?_
  refine G.iload C 4 dX10_originals_69 rfl ?_
  refine G.icmp_ge (tgt := 125) C dX10_originals_71 (by decide) (fun hc => ?_) (fun hc => ?_)
  · have h := it_t h hc
    exact G.sub [0, 1, 2, 3, 4, 5] rfl (gb_X10_originals_67_125 hE C hr hk_34  h)
  · have h := it_f h hc
    refine G.iload C 5 dX10_originals_74 rfl ?_
    refine G.if_eq (tgt := 125) C dX10_originals_76 (by decide) (fun hc => ?_) (fun hc => ?_)
    · have h := it_t h hc
      exact G.sub [0, 1, 2, 3, 4, 5] rfl (gb_X10_originals_67_125 hE C hr hk_34  h)
    · have h := it_f h hc
      refine G.aload_n C 0 dX10_originals_79 rfl rfl ?_
      refine G.getR (k := 12) C k_X10 (sm_67 hE) rfl (by decide) tg_1443 dX10_originals_80 ?_
      refine G.iload C 6 dX10_originals_83 rfl ?_
      obtain ⟨hg_10, h⟩ := gd_ex h
      refine G.aJ (j := ix x6) C (sm_72 hE) hg_10 rfl dX10_originals_85 ?_
      refine G.lconst (v := (0 : Int64)) C dX10_originals_86 (by decide) ?_
      refine G.lcmp C dX10_originals_87 (G.if_eq (tgt := 112) C dX10_originals_88 (by decide) (fun hc => ?_) (fun hc => ?_))
      · have h := it_t h (lgc_eq.mp hc)
        refine G.iconst (v := (1 : Int32)) C dX10_originals_112 (by decide) ?_
        refine G.goto (tgt := 117) C dX10_originals_113 (by decide) ?_
        refine G.istore (L' := [(5, .int (1 : Int32)), (0, .ref (eA E 67)), (1, .int x1), (2, .int x2), (3, .int x3), (4, .int x4), (6, .int x6)]) C dX10_originals_117 rfl (by decide) rfl ?_
        obtain ⟨x6_11, ex6_11, h⟩ := ltv_ex h
        refine G.iinc (L' := [(6, .int x6_11), (5, .int (1 : Int32)), (0, .ref (eA E 67)), (1, .int x1), (2, .int x2), (3, .int x3), (4, .int x4)]) C 6 dX10_originals_119 rfl (ex6_11.trans rfl) (by decide) rfl ?_
        refine G.goto (tgt := 67) C dX10_originals_122 (by decide) ?_
        exact G.sub [2, 3, 4, 5, 6, 1, 0] rfl (hk_67 _ _ _ _ _ _ _  h)
      · have h := it_f h ((not_congr lgc_eq).mp hc)
        refine G.aload_n C 0 dX10_originals_91 rfl rfl ?_
        refine G.getR (k := 12) C k_X10 (sm_67 hE) rfl (by decide) tg_1443 dX10_originals_92 ?_
        refine G.iload C 6 dX10_originals_95 rfl ?_
        obtain ⟨hg_12, h⟩ := gd_ex h
        refine G.aJ (j := ix x6) C (sm_72 hE) hg_12 rfl dX10_originals_97 ?_
        refine G.aload_n C 0 dX10_originals_98 rfl rfl ?_
        refine G.getR (k := 12) C k_X10 (sm_67 hE) rfl (by decide) tg_1443 dX10_originals_99 ?_
        refine G.iload C 4 dX10_originals_102 rfl ?_
        obtain ⟨hg_13, h⟩ := gd_ex h
        refine G.aJ (j := ix x4) C (sm_72 hE) hg_13 rfl dX10_originals_104 ?_
        refine G.iload_n C 1 dX10_originals_105 rfl rfl ?_
        obtain ⟨v_15, hv_14, h⟩ := bd_ex h
        refine G.callS (rest := []) C (s_X10_apartOf  hv_14) ⟨tg_1736, tg_103, ok_X10_apartOf, Nat.le_of_ble_eq_true rfl, Nat.le_of_ble_eq_true rfl⟩ tg_1734 tg_1735 rfl (Nat.le_of_ble_eq_true rfl) dX10_originals_106 ⟨Nat.le_refl 0, Nat.le_refl 0⟩ ?_
        refine G.if_le (tgt := 116) C dX10_originals_109 (by decide) (fun hc => ?_) (fun hc => ?_)
        · have h := it_t h hc
          refine G.iconst (v := (0 : Int32)) C dX10_originals_116 (by decide) ?_
          refine G.istore (L' := [(5, .int (0 : Int32)), (0, .ref (eA E 67)), (1, .int x1), (2, .int x2), (3, .int x3), (4, .int x4), (6, .int x6)]) C dX10_originals_117 rfl (by decide) rfl ?_
          obtain ⟨x6_16, ex6_16, h⟩ := ltv_ex h
          refine G.iinc (L' := [(6, .int x6_16), (5, .int (0 : Int32)), (0, .ref (eA E 67)), (1, .int x1), (2, .int x2), (3, .int x3), (4, .int x4)]) C 6 dX10_originals_119 rfl (ex6_16.trans rfl) (by decide) rfl ?_
          refine G.goto (tgt := 67) C dX10_originals_122 (by decide) ?_
          exact G.sub [2, 3, 4, 5, 6, 1, 0] rfl (hk_67 _ _ _ _ _ _ _  h)
        · have h := it_f h hc
          refine G.iconst (v := (1 : Int32)) C dX10_originals_112 (by decide) ?_
          refine G.goto (tgt := 117) C dX10_originals_113 (by decide) ?_
          refine G.istore (L' := [(5, .int (1 : Int32)), (0, .ref (eA E 67)), (1, .int x1), (2, .int x2), (3, .int x3), (4, .int x4), (6, .int x6)]) C dX10_originals_117 rfl (by decide) rfl ?_
          obtain ⟨x6_17, ex6_17, h⟩ := ltv_ex h
          refine G.iinc (L' := [(6, .int x6_17), (5, .int (1 : Int32)), (0, .ref (eA E 67)), (1, .int x1), (2, .int x2), (3, .int x3), (4, .int x4)]) C 6 dX10_originals_119 rfl (ex6_17.trans rfl) (by decide) rfl ?_
          refine G.goto (tgt := 67) C dX10_originals_122 (by decide) ?_
          exact G.sub [2, 3, 4, 5, 6, 1, 0] rfl (hk_67 _ _ _ _ _ _ _  h)
def b_X10_originals_67_67 (k_34 : Int32 → Int32 → Int32 → Int32 → Mm → Option (Int32 × Mm)) : Nat → Int32 → Int32 → Int32 → Int32 → Int32 → Int32 → Mm → Option (Int32 × Mm)
  | 0, _, _, _, _, _, _, _ => none
  | n + 1, x1, x2, x3, x4, x5, x6, M => bb_X10_originals_67_67 k_34 (b_X10_originals_67_67 k_34 n) x1 x2 x3 x4 x5 x6 M
set_option maxHeartbeats 4000000 in
theorem g_X10_originals_67_67  {k_34 : Int32 → Int32 → Int32 → Int32 → Mm → Option (Int32 × Mm)} {n : Nat} {x1 : Int32} {x2 : Int32} {x3 : Int32} {x4 : Int32} {x5 : Int32} {x6 : Int32} {M : Mm} {v : Int32} {M' : Mm} (hE : Has shM (eH E)) (C : Cx RX10 cX10_originals 7 p (rmD 4) s m args meth c E) (hr : meth.sig.returnType = (some .int)) (hk_34 : ∀ (x1 : Int32) (x2 : Int32) (x3 : Int32) (x4 : Int32) (M : Mm), k_34 x1 x2 x3 x4 M = some (v, M') → G p l e (rmD 4) s m args below meth c E 7 0 0 (QR below args s E 0 0 (some (.int v)) M') 34 [(0, .ref (eA E 67)), (1, .int x1), (2, .int x2), (3, .int x3), (4, .int x4)] [] M) (h : b_X10_originals_67_67 k_34 n x1 x2 x3 x4 x5 x6 M = some (v, M')) : G p l e (rmD 4) s m args below meth c E 7 0 0 (QR below args s E 0 0 (some (.int v)) M') 67 [(0, .ref (eA E 67)), (1, .int x1), (2, .int x2), (3, .int x3), (4, .int x4), (5, .int x5), (6, .int x6)] [] M := by
  induction n generalizing x1 x2 x3 x4 x5 x6 M with
  | zero => cases h
  | succ n ih => exact gb_X10_originals_67_67 hE C hr hk_34 (fun _ _ _ _ _ _ _ => ih)  h
def bb_X10_originals_67_34 (k_34 : Int32 → Int32 → Int32 → Int32 → Mm → Option (Int32 × Mm)) (x1 : Int32) (x2 : Int32) (x3 : Int32) (x4 : Int32) (M : Mm) : Option (Int32 × Mm) := if (M.1 70 0) ≤ x4 then (if x2 = 0 then (bd (f_X10_ones (x3.toInt64)) fun v_8 => some (v_8, M)) else (some (x3, M))) else (gd (inb x4 10) (if (M.2 72 (ix x4)) = (0 : Int64) then (b_X10_originals_67_67 k_34 FU x1 x2 x3 x4 (0 : Int32) (0 : Int32) M) else (b_X10_originals_67_67 k_34 FU x1 x2 x3 x4 (1 : Int32) (0 : Int32) M)))
set_option maxHeartbeats 4000000 in
set_option maxRecDepth 100000 in
theorem gb_X10_originals_67_34  {k_34 : Int32 → Int32 → Int32 → Int32 → Mm → Option (Int32 × Mm)} {x1 : Int32} {x2 : Int32} {x3 : Int32} {x4 : Int32} {M : Mm} {v : Int32} {M' : Mm} (hE : Has shM (eH E)) (C : Cx RX10 cX10_originals 7 p (rmD 4) s m args meth c E) (hr : meth.sig.returnType = (some .int)) (hk_34 : ∀ (x1 : Int32) (x2 : Int32) (x3 : Int32) (x4 : Int32) (M : Mm), k_34 x1 x2 x3 x4 M = some (v, M') → G p l e (rmD 4) s m args below meth c E 7 0 0 (QR below args s E 0 0 (some (.int v)) M') 34 [(0, .ref (eA E 67)), (1, .int x1), (2, .int x2), (3, .int x3), (4, .int x4)] [] M) (h : bb_X10_originals_67_34 k_34 x1 x2 x3 x4 M = some (v, M')) : G p l e (rmD 4) s m args below meth c E 7 0 0 (QR below args s E 0 0 (some (.int v)) M') 34 [(0, .ref (eA E 67)), (1, .int x1), (2, .int x2), (3, .int x3), (4, .int x4)] [] M := by
  unfold bb_X10_originals_67_34 at h
  refine G.iload C 4 dX10_originals_34 rfl ?_
  refine G.aload_n C 0 dX10_originals_36 rfl rfl ?_
  refine G.getR (k := 10) C k_X10 (sm_67 hE) rfl (by decide) tg_1441 dX10_originals_37 ?_
  refine G.iconst (v := (0 : Int32)) C dX10_originals_40 (by decide) ?_
  refine G.aI (j := 0) C (sm_70 hE) (by decide) (by decide) dX10_originals_41 ?_
  refine G.icmp_ge (tgt := 147) C dX10_originals_42 (by decide) (fun hc => ?_) (fun hc => ?_)
  · have h := it_t h hc
    refine G.iload_n C 2 dX10_originals_147 rfl rfl ?_
    refine G.if_ne (tgt := 159) C dX10_originals_148 (by decide) (fun hc => ?_) (fun hc => ?_)
    · have h := it_f h hc
      refine G.iload_n C 3 dX10_originals_159 rfl rfl ?_
      cases h
      exact G.iret C hr dX10_originals_160
    · have h := it_t h hc
      refine G.iload_n C 3 dX10_originals_151 rfl rfl ?_
      refine G.i2l (v := x3.toInt64) C dX10_originals_152 rfl ?_
      obtain ⟨v_8, hv_7, h⟩ := bd_ex h
      refine G.callS (rest := []) C (s_X10_ones  hv_7) ⟨tg_1706, tg_103, ok_X10_ones, Nat.le_of_ble_eq_true rfl, Nat.le_of_ble_eq_true rfl⟩ tg_1704 tg_1705 rfl (Nat.le_of_ble_eq_true rfl) dX10_originals_153 ⟨Nat.le_refl 0, Nat.le_refl 0⟩ ?_
      refine G.goto (tgt := 160) C dX10_originals_156 (by decide) ?_
      cases h
      exact G.iret C hr dX10_originals_160
  · have h := it_f h hc
    refine G.aload_n C 0 dX10_originals_45 rfl rfl ?_
    refine G.getR (k := 12) C k_X10 (sm_67 hE) rfl (by decide) tg_1443 dX10_originals_46 ?_
    refine G.iload C 4 dX10_originals_49 rfl ?_
    obtain ⟨hg_9, h⟩ := gd_ex h
    refine G.aJ (j := ix x4) C (sm_72 hE) hg_9 rfl dX10_originals_51 ?_
    refine G.lconst (v := (0 : Int64)) C dX10_originals_52 (by decide) ?_
    refine G.lcmp C dX10_originals_53 (G.if_eq (tgt := 61) C dX10_originals_54 (by decide) (fun hc => ?_) (fun hc => ?_))
    · have h := it_t h (lgc_eq.mp hc)
      refine G.iconst (v := (0 : Int32)) C dX10_originals_61 (by decide) ?_
      refine G.istore (L' := [(5, .int (0 : Int32)), (0, .ref (eA E 67)), (1, .int x1), (2, .int x2), (3, .int x3), (4, .int x4)]) C dX10_originals_62 rfl (by decide) rfl ?_
      refine G.iconst (v := (0 : Int32)) C dX10_originals_64 (by decide) ?_
      refine G.istore (L' := [(6, .int (0 : Int32)), (5, .int (0 : Int32)), (0, .ref (eA E 67)), (1, .int x1), (2, .int x2), (3, .int x3), (4, .int x4)]) C dX10_originals_65 rfl (by decide) rfl ?_
      exact G.sub [2, 3, 4, 5, 6, 1, 0] rfl (g_X10_originals_67_67 hE C hr hk_34  h)
    · have h := it_f h ((not_congr lgc_eq).mp hc)
      refine G.iconst (v := (1 : Int32)) C dX10_originals_57 (by decide) ?_
      refine G.goto (tgt := 62) C dX10_originals_58 (by decide) ?_
      refine G.istore (L' := [(5, .int (1 : Int32)), (0, .ref (eA E 67)), (1, .int x1), (2, .int x2), (3, .int x3), (4, .int x4)]) C dX10_originals_62 rfl (by decide) rfl ?_
      refine G.iconst (v := (0 : Int32)) C dX10_originals_64 (by decide) ?_
      refine G.istore (L' := [(6, .int (0 : Int32)), (5, .int (1 : Int32)), (0, .ref (eA E 67)), (1, .int x1), (2, .int x2), (3, .int x3), (4, .int x4)]) C dX10_originals_65 rfl (by decide) rfl ?_
      exact G.sub [2, 3, 4, 5, 6, 1, 0] rfl (g_X10_originals_67_67 hE C hr hk_34  h)
def b_X10_originals_67_34 : Nat → Int32 → Int32 → Int32 → Int32 → Mm → Option (Int32 × Mm)
  | 0, _, _, _, _, _ => none
  | n + 1, x1, x2, x3, x4, M => bb_X10_originals_67_34 (b_X10_originals_67_34 n) x1 x2 x3 x4 M
set_option maxHeartbeats 4000000 in
theorem g_X10_originals_67_34  {n : Nat} {x1 : Int32} {x2 : Int32} {x3 : Int32} {x4 : Int32} {M : Mm} {v : Int32} {M' : Mm} (hE : Has shM (eH E)) (C : Cx RX10 cX10_originals 7 p (rmD 4) s m args meth c E) (hr : meth.sig.returnType = (some .int)) (h : b_X10_originals_67_34 n x1 x2 x3 x4 M = some (v, M')) : G p l e (rmD 4) s m args below meth c E 7 0 0 (QR below args s E 0 0 (some (.int v)) M') 34 [(0, .ref (eA E 67)), (1, .int x1), (2, .int x2), (3, .int x3), (4, .int x4)] [] M := by
  induction n generalizing x1 x2 x3 x4 M with
  | zero => cases h
  | succ n ih => exact gb_X10_originals_67_34 hE C hr (fun _ _ _ _ _ => ih)  h
def bb_X10_originals_67_20 (x1 : Int32) (x2 : Int32) (s1 : Int32) (M : Mm) : Option (Int32 × Mm) := bd2 (f_X10_bad_67 s1 (1 : Int32) M) fun v_6 M_5 => if v_6 = 0 then (b_X10_originals_67_34 FU x1 x2 (0 : Int32) (0 : Int32) M_5) else (some ((0 : Int32), M_5))
set_option maxHeartbeats 4000000 in
set_option maxRecDepth 100000 in
theorem gb_X10_originals_67_20  {x1 : Int32} {x2 : Int32} {s1 : Int32} {M : Mm} {v : Int32} {M' : Mm} (hE : Has shM (eH E)) (C : Cx RX10 cX10_originals 7 p (rmD 4) s m args meth c E) (hr : meth.sig.returnType = (some .int)) (h : bb_X10_originals_67_20 x1 x2 s1 M = some (v, M')) : G p l e (rmD 4) s m args below meth c E 7 0 0 (QR below args s E 0 0 (some (.int v)) M') 20 [(0, .ref (eA E 67)), (1, .int x1), (2, .int x2)] [.int s1, .ref (eA E 67)] M := by
  unfold bb_X10_originals_67_20 at h
  refine G.iconst (v := (1 : Int32)) C dX10_originals_20 (by decide) ?_
  obtain ⟨v_6, M_5, hv_4, h⟩ := bd2_ex h
  refine G.callV (rest := []) C (s_X10_bad_67 hE  hv_4) ⟨tg_1600, tg_103, ok_X10_bad, Nat.le_of_ble_eq_true rfl, Nat.le_of_ble_eq_true rfl⟩ tg_1597 tg_1599 tg_46 (sm_67 hE) rfl rfl (Nat.le_of_ble_eq_true rfl) dX10_originals_21 ⟨Nat.le_refl 0, Nat.le_refl 0⟩ ?_
  refine G.if_eq (tgt := 29) C dX10_originals_24 (by decide) (fun hc => ?_) (fun hc => ?_)
  · have h := it_t h hc
    refine G.iconst (v := (0 : Int32)) C dX10_originals_29 (by decide) ?_
    refine G.istore_n (L' := [(3, .int (0 : Int32)), (0, .ref (eA E 67)), (1, .int x1), (2, .int x2)]) C dX10_originals_30 rfl rfl (by decide) rfl ?_
    refine G.iconst (v := (0 : Int32)) C dX10_originals_31 (by decide) ?_
    refine G.istore (L' := [(4, .int (0 : Int32)), (3, .int (0 : Int32)), (0, .ref (eA E 67)), (1, .int x1), (2, .int x2)]) C dX10_originals_32 rfl (by decide) rfl ?_
    exact G.sub [2, 3, 4, 1, 0] rfl (g_X10_originals_67_34 hE C hr  h)
  · have h := it_f h hc
    refine G.iconst (v := (0 : Int32)) C dX10_originals_27 (by decide) ?_
    cases h
    exact G.iret C hr dX10_originals_28
def bb_X10_originals_67_0 (x1 : Int32) (x2 : Int32) (M : Mm) : Option (Int32 × Mm) := ltv (wI M 67 0 (0 : Int32)) fun M_1 => bd (f_X10_in x2 (0 : Int32) (1 : Int32)) fun v_3 => if v_3 = 0 then (bb_X10_originals_67_20 x1 x2 (1 : Int32) M_1) else (bb_X10_originals_67_20 x1 x2 (0 : Int32) M_1)
set_option maxHeartbeats 4000000 in
set_option maxRecDepth 100000 in
theorem gb_X10_originals_67_0  {x1 : Int32} {x2 : Int32} {M : Mm} {v : Int32} {M' : Mm} (hE : Has shM (eH E)) (C : Cx RX10 cX10_originals 7 p (rmD 4) s m args meth c E) (hr : meth.sig.returnType = (some .int)) (h : bb_X10_originals_67_0 x1 x2 M = some (v, M')) : G p l e (rmD 4) s m args below meth c E 7 0 0 (QR below args s E 0 0 (some (.int v)) M') 0 [(0, .ref (eA E 67)), (1, .int x1), (2, .int x2)] [] M := by
  unfold bb_X10_originals_67_0 at h
  refine G.aload_n C 0 dX10_originals_0 rfl rfl ?_
  refine G.iconst (v := (0 : Int32)) C dX10_originals_1 (by decide) ?_
  obtain ⟨M_1, eM_1, h⟩ := ltv_ex h
  refine G.putI (k := 0) C k_X10 (sm_67 hE) rfl (by decide) tg_1431 rfl rfl dX10_originals_2 eM_1 ?_
  refine G.aload_n C 0 dX10_originals_5 rfl rfl ?_
  refine G.iload_n C 2 dX10_originals_6 rfl rfl ?_
  refine G.iconst (v := (0 : Int32)) C dX10_originals_7 (by decide) ?_
  refine G.iconst (v := (1 : Int32)) C dX10_originals_8 (by decide) ?_
  obtain ⟨v_3, hv_2, h⟩ := bd_ex h
  refine G.callS (rest := [.ref (eA E 67)]) C (s_X10_in  hv_2) ⟨tg_1596, tg_103, ok_X10_in, Nat.le_of_ble_eq_true rfl, Nat.le_of_ble_eq_true rfl⟩ tg_1594 tg_1595 rfl (Nat.le_of_ble_eq_true rfl) dX10_originals_9 ⟨Nat.le_refl 0, Nat.le_refl 0⟩ ?_
  refine G.if_ne (tgt := 19) C dX10_originals_12 (by decide) (fun hc => ?_) (fun hc => ?_)
  · have h := it_f h hc
    refine G.iconst (v := (0 : Int32)) C dX10_originals_19 (by decide) ?_
    exact G.sub [0, 1, 2] rfl (gb_X10_originals_67_20 hE C hr  h)
  · have h := it_t h hc
    refine G.iconst (v := (1 : Int32)) C dX10_originals_15 (by decide) ?_
    refine G.goto (tgt := 20) C dX10_originals_16 (by decide) ?_
    exact G.sub [0, 1, 2] rfl (gb_X10_originals_67_20 hE C hr  h)
def f_X10_originals_67 (x1 : Int32) (x2 : Int32) (M : Mm) : Option (Int32 × Mm) := bb_X10_originals_67_0 x1 x2 M
theorem s_X10_originals_67 {l : Launch} {E : Ev} {x1 : Int32} {x2 : Int32} {M : Mm} {v : Int32} {M' : Mm} (hE : Has shM (eH E)) (h : f_X10_originals_67 x1 x2 M = some (v, M')) : MetA l yX10_originals cX10_originals 7 (some .int) 4 E [.ref (eA E 67), .int x1, .int x2] M (some (.int v)) M' := by
  refine MetA.of (by decide +kernel) (Nat.le_of_ble_eq_true rfl) ?_
  intro p e s m below meth c C hr hnm
  exact G.sub [0, 1, 2] rfl (gb_X10_originals_67_0 hE C hr  h)
def bb_X10_fount_67_50 (k_50 : Int32 → Int32 → Int32 → Int32 → Int32 → Int32 → Mm → Option (Int32 × Mm)) (x1 : Int32) (x2 : Int32) (x3 : Int32) (x4 : Int32) (x5 : Int32) (x6 : Int32) (M : Mm) : Option (Int32 × Mm) := if (10 : Int32) ≤ x6 then (bd2 (f_X10_findSet_67 (0 : Int32) x3 M) fun v_11 M_10 => bd (f_X10_ones (v_11.toInt64)) fun v_13 => some (x4 * v_13, M_10)) else (if ((shrI x1 (x6 - (1 : Int32))) &&& (1 : Int32)) = 0 then (ltv (x6 + (1 : Int32)) fun x6_14 => k_50 x1 x2 x3 x4 x5 x6_14 M) else (if x4 ≤ 0 then (ltv (x4 + (1 : Int32)) fun x4_15 => ltv (x6 + (1 : Int32)) fun x6_16 => k_50 x1 x2 x3 x4_15 x6 x6_16 M) else (if ((((16 : Int32) + x2) * x5) * x5) < (((16 : Int32) * x6) * x6) then (ltv (x4 + (1 : Int32)) fun x4_17 => ltv (x6 + (1 : Int32)) fun x6_18 => k_50 x1 x2 x3 x4_17 x6 x6_18 M) else (ltv (x6 + (1 : Int32)) fun x6_19 => k_50 x1 x2 x3 x4 x5 x6_19 M))))
set_option maxHeartbeats 4000000 in
set_option maxRecDepth 100000 in
theorem gb_X10_fount_67_50  {k_50 : Int32 → Int32 → Int32 → Int32 → Int32 → Int32 → Mm → Option (Int32 × Mm)} {x1 : Int32} {x2 : Int32} {x3 : Int32} {x4 : Int32} {x5 : Int32} {x6 : Int32} {M : Mm} {v : Int32} {M' : Mm} (hE : Has shM (eH E)) (C : Cx RX10 cX10_fount 7 p (rmD 5) s m args meth c E) (hr : meth.sig.returnType = (some .int)) (hk_50 : ∀ (x1 : Int32) (x2 : Int32) (x3 : Int32) (x4 : Int32) (x5 : Int32) (x6 : Int32) (M : Mm), k_50 x1 x2 x3 x4 x5 x6 M = some (v, M') → G p l e (rmD 5) s m args below meth c E 7 0 0 (QR below args s E 0 0 (some (.int v)) M') 50 [(0, .ref (eA E 67)), (1, .int x1), (2, .int x2), (3, .int x3), (4, .int x4), (5, .int x5), (6, .int x6)] [] M) (h : bb_X10_fount_67_50 k_50 x1 x2 x3 x4 x5 x6 M = some (v, M')) : G p l e (rmD 5) s m args below meth c E 7 0 0 (QR below args s E 0 0 (some (.int v)) M') 50 [(0, .ref (eA E 67)), (1, .int x1), (2, .int x2), (3, .int x3), (4, .int x4), (5, .int x5), (6, .int x6)] [] M := by
  unfold bb_X10_fount_67_50 at h
  refine G.iload C 6 dX10_fount_50 rfl ?_
  refine G.bipush (v := (10 : Int32)) C dX10_fount_52 (by decide) ?_
  refine G.icmp_ge (tgt := 110) C dX10_fount_54 (by decide) (fun hc => ?_) (fun hc => ?_)
  · have h := it_t h hc
    refine G.iload C 4 dX10_fount_110 rfl ?_
    refine G.aload_n C 0 dX10_fount_112 rfl rfl ?_
    refine G.iconst (v := (0 : Int32)) C dX10_fount_113 (by decide) ?_
    refine G.iload_n C 3 dX10_fount_114 rfl rfl ?_
    obtain ⟨v_11, M_10, hv_9, h⟩ := bd2_ex h
    refine G.callV (rest := [.int x4]) C (s_X10_findSet_67 hE  hv_9) ⟨tg_1750, tg_103, ok_X10_findSet, Nat.le_of_ble_eq_true rfl, Nat.le_of_ble_eq_true rfl⟩ tg_1747 tg_1749 tg_66 (sm_67 hE) rfl rfl (Nat.le_of_ble_eq_true rfl) dX10_fount_115 ⟨Nat.le_refl 0, Nat.le_refl 0⟩ ?_
    refine G.i2l (v := v_11.toInt64) C dX10_fount_118 rfl ?_
    obtain ⟨v_13, hv_12, h⟩ := bd_ex h
    refine G.callS (rest := [.int x4]) C (s_X10_ones  hv_12) ⟨tg_1706, tg_103, ok_X10_ones, Nat.le_of_ble_eq_true rfl, Nat.le_of_ble_eq_true rfl⟩ tg_1704 tg_1705 rfl (Nat.le_of_ble_eq_true rfl) dX10_fount_119 ⟨Nat.le_refl 0, Nat.le_refl 0⟩ ?_
    refine G.imul C dX10_fount_122 ?_
    cases h
    exact G.iret C hr dX10_fount_123
  · have h := it_f h hc
    refine G.iload_n C 1 dX10_fount_57 rfl rfl ?_
    refine G.iload C 6 dX10_fount_58 rfl ?_
    refine G.iconst (v := (1 : Int32)) C dX10_fount_60 (by decide) ?_
    refine G.isub C dX10_fount_61 ?_
    refine G.isr C dX10_fount_62 ?_
    refine G.iconst (v := (1 : Int32)) C dX10_fount_63 (by decide) ?_
    refine G.iand C dX10_fount_64 ?_
    refine G.if_eq (tgt := 104) C dX10_fount_65 (by decide) (fun hc => ?_) (fun hc => ?_)
    · have h := it_t h hc
      obtain ⟨x6_14, ex6_14, h⟩ := ltv_ex h
      refine G.iinc (L' := [(6, .int x6_14), (0, .ref (eA E 67)), (1, .int x1), (2, .int x2), (3, .int x3), (4, .int x4), (5, .int x5)]) C 6 dX10_fount_104 rfl (ex6_14.trans rfl) (by decide) rfl ?_
      refine G.goto (tgt := 50) C dX10_fount_107 (by decide) ?_
      exact G.sub [1, 2, 3, 4, 5, 6, 0] rfl (hk_50 _ _ _ _ _ _ _  h)
    · have h := it_f h hc
      refine G.iload C 4 dX10_fount_68 rfl ?_
      refine G.if_le (tgt := 97) C dX10_fount_70 (by decide) (fun hc => ?_) (fun hc => ?_)
      · have h := it_t h hc
        refine G.iload C 6 dX10_fount_97 rfl ?_
        refine G.istore (L' := [(5, .int x6), (0, .ref (eA E 67)), (1, .int x1), (2, .int x2), (3, .int x3), (4, .int x4), (6, .int x6)]) C dX10_fount_99 rfl (by decide) rfl ?_
        obtain ⟨x4_15, ex4_15, h⟩ := ltv_ex h
        refine G.iinc (L' := [(4, .int x4_15), (5, .int x6), (0, .ref (eA E 67)), (1, .int x1), (2, .int x2), (3, .int x3), (6, .int x6)]) C 5 dX10_fount_101 rfl (ex4_15.trans rfl) (by decide) rfl ?_
        obtain ⟨x6_16, ex6_16, h⟩ := ltv_ex h
        refine G.iinc (L' := [(6, .int x6_16), (4, .int x4_15), (5, .int x6), (0, .ref (eA E 67)), (1, .int x1), (2, .int x2), (3, .int x3)]) C 6 dX10_fount_104 rfl (ex6_16.trans rfl) (by decide) rfl ?_
        refine G.goto (tgt := 50) C dX10_fount_107 (by decide) ?_
        exact G.sub [3, 4, 5, 6, 1, 2, 0] rfl (hk_50 _ _ _ _ _ _ _  h)
      · have h := it_f h hc
        refine G.bipush (v := (16 : Int32)) C dX10_fount_73 (by decide) ?_
        refine G.iload C 6 dX10_fount_75 rfl ?_
        refine G.imul C dX10_fount_77 ?_
        refine G.iload C 6 dX10_fount_78 rfl ?_
        refine G.imul C dX10_fount_80 ?_
        refine G.bipush (v := (16 : Int32)) C dX10_fount_81 (by decide) ?_
        refine G.iload_n C 2 dX10_fount_83 rfl rfl ?_
        refine G.iadd C dX10_fount_84 ?_
        refine G.iload C 5 dX10_fount_85 rfl ?_
        refine G.imul C dX10_fount_87 ?_
        refine G.iload C 5 dX10_fount_88 rfl ?_
        refine G.imul C dX10_fount_90 ?_
        refine G.icmp_gt (tgt := 97) C dX10_fount_91 (by decide) (fun hc => ?_) (fun hc => ?_)
        · have h := it_t h hc
          refine G.iload C 6 dX10_fount_97 rfl ?_
          refine G.istore (L' := [(5, .int x6), (0, .ref (eA E 67)), (1, .int x1), (2, .int x2), (3, .int x3), (4, .int x4), (6, .int x6)]) C dX10_fount_99 rfl (by decide) rfl ?_
          obtain ⟨x4_17, ex4_17, h⟩ := ltv_ex h
          refine G.iinc (L' := [(4, .int x4_17), (5, .int x6), (0, .ref (eA E 67)), (1, .int x1), (2, .int x2), (3, .int x3), (6, .int x6)]) C 5 dX10_fount_101 rfl (ex4_17.trans rfl) (by decide) rfl ?_
          obtain ⟨x6_18, ex6_18, h⟩ := ltv_ex h
          refine G.iinc (L' := [(6, .int x6_18), (4, .int x4_17), (5, .int x6), (0, .ref (eA E 67)), (1, .int x1), (2, .int x2), (3, .int x3)]) C 6 dX10_fount_104 rfl (ex6_18.trans rfl) (by decide) rfl ?_
          refine G.goto (tgt := 50) C dX10_fount_107 (by decide) ?_
          exact G.sub [3, 4, 5, 6, 1, 2, 0] rfl (hk_50 _ _ _ _ _ _ _  h)
        · have h := it_f h hc
          refine G.goto (tgt := 104) C dX10_fount_94 (by decide) ?_
          obtain ⟨x6_19, ex6_19, h⟩ := ltv_ex h
          refine G.iinc (L' := [(6, .int x6_19), (0, .ref (eA E 67)), (1, .int x1), (2, .int x2), (3, .int x3), (4, .int x4), (5, .int x5)]) C 6 dX10_fount_104 rfl (ex6_19.trans rfl) (by decide) rfl ?_
          refine G.goto (tgt := 50) C dX10_fount_107 (by decide) ?_
          exact G.sub [1, 2, 3, 4, 5, 6, 0] rfl (hk_50 _ _ _ _ _ _ _  h)
def b_X10_fount_67_50 : Nat → Int32 → Int32 → Int32 → Int32 → Int32 → Int32 → Mm → Option (Int32 × Mm)
  | 0, _, _, _, _, _, _, _ => none
  | n + 1, x1, x2, x3, x4, x5, x6, M => bb_X10_fount_67_50 (b_X10_fount_67_50 n) x1 x2 x3 x4 x5 x6 M
set_option maxHeartbeats 4000000 in
theorem g_X10_fount_67_50  {n : Nat} {x1 : Int32} {x2 : Int32} {x3 : Int32} {x4 : Int32} {x5 : Int32} {x6 : Int32} {M : Mm} {v : Int32} {M' : Mm} (hE : Has shM (eH E)) (C : Cx RX10 cX10_fount 7 p (rmD 5) s m args meth c E) (hr : meth.sig.returnType = (some .int)) (h : b_X10_fount_67_50 n x1 x2 x3 x4 x5 x6 M = some (v, M')) : G p l e (rmD 5) s m args below meth c E 7 0 0 (QR below args s E 0 0 (some (.int v)) M') 50 [(0, .ref (eA E 67)), (1, .int x1), (2, .int x2), (3, .int x3), (4, .int x4), (5, .int x5), (6, .int x6)] [] M := by
  induction n generalizing x1 x2 x3 x4 x5 x6 M with
  | zero => cases h
  | succ n ih => exact gb_X10_fount_67_50 hE C hr (fun _ _ _ _ _ _ _ => ih)  h
def bb_X10_fount_67_32 (x1 : Int32) (x2 : Int32) (x3 : Int32) (s1 : Int32) (M : Mm) : Option (Int32 × Mm) := bd2 (f_X10_bad_67 s1 (1 : Int32) M) fun v_8 M_7 => if v_8 = 0 then (b_X10_fount_67_50 FU x1 x2 x3 (0 : Int32) (0 : Int32) (1 : Int32) M_7) else (some ((0 : Int32), M_7))
set_option maxHeartbeats 4000000 in
set_option maxRecDepth 100000 in
theorem gb_X10_fount_67_32  {x1 : Int32} {x2 : Int32} {x3 : Int32} {s1 : Int32} {M : Mm} {v : Int32} {M' : Mm} (hE : Has shM (eH E)) (C : Cx RX10 cX10_fount 7 p (rmD 5) s m args meth c E) (hr : meth.sig.returnType = (some .int)) (h : bb_X10_fount_67_32 x1 x2 x3 s1 M = some (v, M')) : G p l e (rmD 5) s m args below meth c E 7 0 0 (QR below args s E 0 0 (some (.int v)) M') 32 [(0, .ref (eA E 67)), (1, .int x1), (2, .int x2), (3, .int x3)] [.int s1, .ref (eA E 67)] M := by
  unfold bb_X10_fount_67_32 at h
  refine G.iconst (v := (1 : Int32)) C dX10_fount_32 (by decide) ?_
  obtain ⟨v_8, M_7, hv_6, h⟩ := bd2_ex h
  refine G.callV (rest := []) C (s_X10_bad_67 hE  hv_6) ⟨tg_1600, tg_103, ok_X10_bad, Nat.le_of_ble_eq_true rfl, Nat.le_of_ble_eq_true rfl⟩ tg_1597 tg_1599 tg_46 (sm_67 hE) rfl rfl (Nat.le_of_ble_eq_true rfl) dX10_fount_33 ⟨Nat.le_refl 0, Nat.le_refl 0⟩ ?_
  refine G.if_eq (tgt := 41) C dX10_fount_36 (by decide) (fun hc => ?_) (fun hc => ?_)
  · have h := it_t h hc
    refine G.iconst (v := (0 : Int32)) C dX10_fount_41 (by decide) ?_
    refine G.istore (L' := [(4, .int (0 : Int32)), (0, .ref (eA E 67)), (1, .int x1), (2, .int x2), (3, .int x3)]) C dX10_fount_42 rfl (by decide) rfl ?_
    refine G.iconst (v := (0 : Int32)) C dX10_fount_44 (by decide) ?_
    refine G.istore (L' := [(5, .int (0 : Int32)), (4, .int (0 : Int32)), (0, .ref (eA E 67)), (1, .int x1), (2, .int x2), (3, .int x3)]) C dX10_fount_45 rfl (by decide) rfl ?_
    refine G.iconst (v := (1 : Int32)) C dX10_fount_47 (by decide) ?_
    refine G.istore (L' := [(6, .int (1 : Int32)), (5, .int (0 : Int32)), (4, .int (0 : Int32)), (0, .ref (eA E 67)), (1, .int x1), (2, .int x2), (3, .int x3)]) C dX10_fount_48 rfl (by decide) rfl ?_
    exact G.sub [3, 4, 5, 6, 2, 1, 0] rfl (g_X10_fount_67_50 hE C hr  h)
  · have h := it_f h hc
    refine G.iconst (v := (0 : Int32)) C dX10_fount_39 (by decide) ?_
    cases h
    exact G.iret C hr dX10_fount_40
def bb_X10_fount_67_27 (x1 : Int32) (x2 : Int32) (x3 : Int32) (M : Mm) : Option (Int32 × Mm) := bb_X10_fount_67_32 x1 x2 x3 (1 : Int32) M
set_option maxHeartbeats 4000000 in
set_option maxRecDepth 100000 in
theorem gb_X10_fount_67_27  {x1 : Int32} {x2 : Int32} {x3 : Int32} {M : Mm} {v : Int32} {M' : Mm} (hE : Has shM (eH E)) (C : Cx RX10 cX10_fount 7 p (rmD 5) s m args meth c E) (hr : meth.sig.returnType = (some .int)) (h : bb_X10_fount_67_27 x1 x2 x3 M = some (v, M')) : G p l e (rmD 5) s m args below meth c E 7 0 0 (QR below args s E 0 0 (some (.int v)) M') 27 [(0, .ref (eA E 67)), (1, .int x1), (2, .int x2), (3, .int x3)] [.ref (eA E 67)] M := by
  unfold bb_X10_fount_67_27 at h
  refine G.iconst (v := (1 : Int32)) C dX10_fount_27 (by decide) ?_
  refine G.goto (tgt := 32) C dX10_fount_28 (by decide) ?_
  exact G.sub [0, 1, 2, 3] rfl (gb_X10_fount_67_32 hE C hr  h)
def bb_X10_fount_67_0 (x1 : Int32) (x2 : Int32) (x3 : Int32) (M : Mm) : Option (Int32 × Mm) := ltv (wI M 67 0 (0 : Int32)) fun M_1 => bd (f_X10_in x1 (1 : Int32) (511 : Int32)) fun v_3 => if v_3 = 0 then (bb_X10_fount_67_27 x1 x2 x3 M_1) else (bd (f_X10_in x2 (0 : Int32) (99 : Int32)) fun v_5 => if v_5 = 0 then (bb_X10_fount_67_27 x1 x2 x3 M_1) else (bb_X10_fount_67_32 x1 x2 x3 (0 : Int32) M_1))
set_option maxHeartbeats 4000000 in
set_option maxRecDepth 100000 in
theorem gb_X10_fount_67_0  {x1 : Int32} {x2 : Int32} {x3 : Int32} {M : Mm} {v : Int32} {M' : Mm} (hE : Has shM (eH E)) (C : Cx RX10 cX10_fount 7 p (rmD 5) s m args meth c E) (hr : meth.sig.returnType = (some .int)) (h : bb_X10_fount_67_0 x1 x2 x3 M = some (v, M')) : G p l e (rmD 5) s m args below meth c E 7 0 0 (QR below args s E 0 0 (some (.int v)) M') 0 [(0, .ref (eA E 67)), (1, .int x1), (2, .int x2), (3, .int x3)] [] M := by
  unfold bb_X10_fount_67_0 at h
  refine G.aload_n C 0 dX10_fount_0 rfl rfl ?_
  refine G.iconst (v := (0 : Int32)) C dX10_fount_1 (by decide) ?_
  obtain ⟨M_1, eM_1, h⟩ := ltv_ex h
  refine G.putI (k := 0) C k_X10 (sm_67 hE) rfl (by decide) tg_1431 rfl rfl dX10_fount_2 eM_1 ?_
  refine G.aload_n C 0 dX10_fount_5 rfl rfl ?_
  refine G.iload_n C 1 dX10_fount_6 rfl rfl ?_
  refine G.iconst (v := (1 : Int32)) C dX10_fount_7 (by decide) ?_
  refine G.sipush (v := (511 : Int32)) C dX10_fount_8 (by decide) ?_
  obtain ⟨v_3, hv_2, h⟩ := bd_ex h
  refine G.callS (rest := [.ref (eA E 67)]) C (s_X10_in  hv_2) ⟨tg_1596, tg_103, ok_X10_in, Nat.le_of_ble_eq_true rfl, Nat.le_of_ble_eq_true rfl⟩ tg_1594 tg_1595 rfl (Nat.le_of_ble_eq_true rfl) dX10_fount_11 ⟨Nat.le_refl 0, Nat.le_refl 0⟩ ?_
  refine G.if_eq (tgt := 27) C dX10_fount_14 (by decide) (fun hc => ?_) (fun hc => ?_)
  · have h := it_t h hc
    exact G.sub [0, 1, 2, 3] rfl (gb_X10_fount_67_27 hE C hr  h)
  · have h := it_f h hc
    refine G.iload_n C 2 dX10_fount_17 rfl rfl ?_
    refine G.iconst (v := (0 : Int32)) C dX10_fount_18 (by decide) ?_
    refine G.bipush (v := (99 : Int32)) C dX10_fount_19 (by decide) ?_
    obtain ⟨v_5, hv_4, h⟩ := bd_ex h
    refine G.callS (rest := [.ref (eA E 67)]) C (s_X10_in  hv_4) ⟨tg_1596, tg_103, ok_X10_in, Nat.le_of_ble_eq_true rfl, Nat.le_of_ble_eq_true rfl⟩ tg_1594 tg_1595 rfl (Nat.le_of_ble_eq_true rfl) dX10_fount_21 ⟨Nat.le_refl 0, Nat.le_refl 0⟩ ?_
    refine G.if_ne (tgt := 31) C dX10_fount_24 (by decide) (fun hc => ?_) (fun hc => ?_)
    · have h := it_f h hc
      refine G.iconst (v := (0 : Int32)) C dX10_fount_31 (by decide) ?_
      exact G.sub [0, 1, 2, 3] rfl (gb_X10_fount_67_32 hE C hr  h)
    · have h := it_t h hc
      exact G.sub [0, 1, 2, 3] rfl (gb_X10_fount_67_27 hE C hr  h)
def f_X10_fount_67 (x1 : Int32) (x2 : Int32) (x3 : Int32) (M : Mm) : Option (Int32 × Mm) := bb_X10_fount_67_0 x1 x2 x3 M
theorem s_X10_fount_67 {l : Launch} {E : Ev} {x1 : Int32} {x2 : Int32} {x3 : Int32} {M : Mm} {v : Int32} {M' : Mm} (hE : Has shM (eH E)) (h : f_X10_fount_67 x1 x2 x3 M = some (v, M')) : MetA l yX10_fount cX10_fount 7 (some .int) 5 E [.ref (eA E 67), .int x1, .int x2, .int x3] M (some (.int v)) M' := by
  refine MetA.of (by decide +kernel) (Nat.le_of_ble_eq_true rfl) ?_
  intro p e s m below meth c C hr hnm
  exact G.sub [0, 1, 2, 3] rfl (gb_X10_fount_67_0 hE C hr  h)
def bb_X10_moves_67_r_12 (r1 : Nat) (M : Mm) : Option (Int64 × Mm) := ltv (wI M 67 31 ((M.1 67 31) + (1 : Int32))) fun M_3 => gd (inb ((M_3.1 67 31) - (1 : Int32)) 60) (some (M_3.2 (r1) (ix ((M_3.1 67 31) - (1 : Int32))), M_3))
set_option maxHeartbeats 4000000 in
set_option maxRecDepth 100000 in
theorem gb_X10_moves_67_r_12  {r1 : Nat} {M : Mm} {v : Int64} {M' : Mm} (hE : Has shM (eH E)) (C : Cx RX10 cX10_moves 5 p (rmD 1) s m args meth c E) (hr : meth.sig.returnType = (some .long)) (hr1 : (eH E)[r1]? = some (.inl (1, 60, []))) (h : bb_X10_moves_67_r_12 r1 M = some (v, M')) : G p l e (rmD 1) s m args below meth c E 5 0 0 (QR below args s E 0 0 (some (.long v)) M') 12 [(0, .ref (eA E 67)), (1, .ref (eA E (r1)))] [] M := by
  unfold bb_X10_moves_67_r_12 at h
  refine G.aload_n C 0 dX10_moves_12 rfl rfl ?_
  refine G.dup C dX10_moves_13 rfl ?_
  refine G.getI (k := 31) C k_X10 (sm_67 hE) rfl (by decide) tg_1462 dX10_moves_14 ?_
  refine G.iconst (v := (1 : Int32)) C dX10_moves_17 (by decide) ?_
  refine G.iadd C dX10_moves_18 ?_
  obtain ⟨M_3, eM_3, h⟩ := ltv_ex h
  refine G.putI (k := 31) C k_X10 (sm_67 hE) rfl (by decide) tg_1462 rfl rfl dX10_moves_19 eM_3 ?_
  refine G.aload_n C 1 dX10_moves_22 rfl rfl ?_
  refine G.aload_n C 0 dX10_moves_23 rfl rfl ?_
  refine G.getI (k := 31) C k_X10 (sm_67 hE) rfl (by decide) tg_1462 dX10_moves_24 ?_
  refine G.iconst (v := (1 : Int32)) C dX10_moves_27 (by decide) ?_
  refine G.isub C dX10_moves_28 ?_
  obtain ⟨hg_4, h⟩ := gd_ex h
  refine G.aJ (j := ix ((M_3.1 67 31) - (1 : Int32))) C (hr1) hg_4 rfl dX10_moves_29 ?_
  cases h
  exact G.lret C hr dX10_moves_30
def bb_X10_moves_67_r_0 (r1 : Nat) (x2 : Int64) (x4 : Int32) (M : Mm) : Option (Int64 × Mm) := if x4 = 0 then (gd (inb (M.1 67 31) 60) (ltv (wJ M (r1) (ix (M.1 67 31)) x2) fun M_2 => bb_X10_moves_67_r_12 (r1) M_2)) else (bb_X10_moves_67_r_12 (r1) M)
set_option maxHeartbeats 4000000 in
set_option maxRecDepth 100000 in
theorem gb_X10_moves_67_r_0  {r1 : Nat} {x2 : Int64} {x4 : Int32} {M : Mm} {v : Int64} {M' : Mm} (hE : Has shM (eH E)) (C : Cx RX10 cX10_moves 5 p (rmD 1) s m args meth c E) (hr : meth.sig.returnType = (some .long)) (hr1 : (eH E)[r1]? = some (.inl (1, 60, []))) (h : bb_X10_moves_67_r_0 r1 x2 x4 M = some (v, M')) : G p l e (rmD 1) s m args below meth c E 5 0 0 (QR below args s E 0 0 (some (.long v)) M') 0 [(0, .ref (eA E 67)), (1, .ref (eA E (r1))), (2, .long x2), (4, .int x4)] [] M := by
  unfold bb_X10_moves_67_r_0 at h
  refine G.iload C 3 dX10_moves_0 rfl ?_
  refine G.if_ne (tgt := 12) C dX10_moves_2 (by decide) (fun hc => ?_) (fun hc => ?_)
  · have h := it_f h hc
    exact G.sub [0, 1] rfl (gb_X10_moves_67_r_12 hE C hr hr1 h)
  · have h := it_t h hc
    refine G.aload_n C 1 dX10_moves_5 rfl rfl ?_
    refine G.aload_n C 0 dX10_moves_6 rfl rfl ?_
    refine G.getI (k := 31) C k_X10 (sm_67 hE) rfl (by decide) tg_1462 dX10_moves_7 ?_
    refine G.lload_n C 2 dX10_moves_10 rfl rfl ?_
    obtain ⟨hg_1, h⟩ := gd_ex h
    obtain ⟨M_2, eM_2, h⟩ := ltv_ex h
    refine G.sJ (j := (ix (M.1 67 31))) C (hr1) hg_1 rfl dX10_moves_11 eM_2 ?_
    exact G.sub [0, 1] rfl (gb_X10_moves_67_r_12 hE C hr hr1 h)
def f_X10_moves_67_r (r1 : Nat) (x2 : Int64) (x4 : Int32) (M : Mm) : Option (Int64 × Mm) := bb_X10_moves_67_r_0 r1 x2 x4 M
theorem s_X10_moves_67_r {l : Launch} {E : Ev} {r1 : Nat} {x2 : Int64} {x4 : Int32} {M : Mm} {v : Int64} {M' : Mm} (hE : Has shM (eH E)) (hr1 : (eH E)[r1]? = some (.inl (1, 60, []))) (h : f_X10_moves_67_r r1 x2 x4 M = some (v, M')) : MetA l yX10_moves cX10_moves 5 (some .long) 1 E [.ref (eA E 67), .ref (eA E (r1)), .long x2, .int x4] M (some (.long v)) M' := by
  refine MetA.of (by decide +kernel) (Nat.le_of_ble_eq_true rfl) ?_
  intro p e s m below meth c C hr hnm
  exact G.sub [0, 1, 2, 3] rfl (gb_X10_moves_67_r_0 hE C hr hr1 h)
def bb_X10_movesAll_67_r_119 (k_119 : Nat → Int32 → Int32 → Mm → Option Mm) (r1 : Nat) (x2 : Int32) (x3 : Int32) (M : Mm) : Option Mm := if (8 : Int32) ≤ x3 then (some M) else (gd (inb x3 8) (bd2 (f_X10_moves_67_r (r1) (M.2 94 (ix x3)) x2 M) fun v_32 M_31 => gd (inb x3 8) (ltv (wJ M_31 94 (ix x3) v_32) fun M_34 => ltv (x3 + (1 : Int32)) fun x3_35 => k_119 (r1) x2 x3_35 M_34)))
set_option maxHeartbeats 4000000 in
set_option maxRecDepth 100000 in
theorem gb_X10_movesAll_67_r_119  {k_119 : Nat → Int32 → Int32 → Mm → Option Mm} {r1 : Nat} {x2 : Int32} {x3 : Int32} {M : Mm} {M' : Mm} (hE : Has shM (eH E)) (C : Cx RX10 cX10_movesAll 4 p (rmD 2) s m args meth c E) (hr : meth.sig.returnType = none) (hk_119 : ∀ (r1 : Nat) (x2 : Int32) (x3 : Int32) (M : Mm), (eH E)[r1]? = some (.inl (1, 60, [])) → k_119 r1 x2 x3 M = some M' → G p l e (rmD 2) s m args below meth c E 4 0 0 (QR below args s E 0 0 none M') 119 [(0, .ref (eA E 67)), (1, .ref (eA E (r1))), (2, .int x2), (3, .int x3)] [] M) (hr1 : (eH E)[r1]? = some (.inl (1, 60, []))) (h : bb_X10_movesAll_67_r_119 k_119 r1 x2 x3 M = some M') : G p l e (rmD 2) s m args below meth c E 4 0 0 (QR below args s E 0 0 none M') 119 [(0, .ref (eA E 67)), (1, .ref (eA E (r1))), (2, .int x2), (3, .int x3)] [] M := by
  unfold bb_X10_movesAll_67_r_119 at h
  refine G.iload_n C 3 dX10_movesAll_119 rfl rfl ?_
  refine G.bipush (v := (8 : Int32)) C dX10_movesAll_120 (by decide) ?_
  refine G.icmp_ge (tgt := 149) C dX10_movesAll_122 (by decide) (fun hc => ?_) (fun hc => ?_)
  · have h := it_t h hc
    cases h
    exact G.vret C hr dX10_movesAll_149
  · have h := it_f h hc
    refine G.aload_n C 0 dX10_movesAll_125 rfl rfl ?_
    refine G.getR (k := 29) C k_X10 (sm_67 hE) rfl (by decide) tg_1460 dX10_movesAll_126 ?_
    refine G.iload_n C 3 dX10_movesAll_129 rfl rfl ?_
    refine G.aload_n C 0 dX10_movesAll_130 rfl rfl ?_
    refine G.aload_n C 1 dX10_movesAll_131 rfl rfl ?_
    refine G.aload_n C 0 dX10_movesAll_132 rfl rfl ?_
    refine G.getR (k := 29) C k_X10 (sm_67 hE) rfl (by decide) tg_1460 dX10_movesAll_133 ?_
    refine G.iload_n C 3 dX10_movesAll_136 rfl rfl ?_
    obtain ⟨hg_29, h⟩ := gd_ex h
    refine G.aJ (j := ix x3) C (sm_94 hE) hg_29 rfl dX10_movesAll_137 ?_
    refine G.iload_n C 2 dX10_movesAll_138 rfl rfl ?_
    obtain ⟨v_32, M_31, hv_30, h⟩ := bd2_ex h
    refine G.callV (rest := [.int x3, .ref (eA E 94)]) C (s_X10_moves_67_r hE hr1 hv_30) ⟨tg_1977, tg_103, ok_X10_moves, Nat.le_of_ble_eq_true rfl, Nat.le_of_ble_eq_true rfl⟩ tg_1974 tg_1976 tg_88 (sm_67 hE) rfl rfl (Nat.le_of_ble_eq_true rfl) dX10_movesAll_139 ⟨Nat.le_refl 0, Nat.le_refl 0⟩ ?_
    obtain ⟨hg_33, h⟩ := gd_ex h
    obtain ⟨M_34, eM_34, h⟩ := ltv_ex h
    refine G.sJ (j := (ix x3)) C (sm_94 hE) hg_33 rfl dX10_movesAll_142 eM_34 ?_
    obtain ⟨x3_35, ex3_35, h⟩ := ltv_ex h
    refine G.iinc (L' := [(3, .int x3_35), (0, .ref (eA E 67)), (1, .ref (eA E (r1))), (2, .int x2)]) C 3 dX10_movesAll_143 rfl (ex3_35.trans rfl) (by decide) rfl ?_
    refine G.goto (tgt := 119) C dX10_movesAll_146 (by decide) ?_
    exact G.sub [1, 2, 3, 0] rfl (hk_119 _ _ _ _ hr1 h)
def b_X10_movesAll_67_r_119 : Nat → Nat → Int32 → Int32 → Mm → Option Mm
  | 0, _, _, _, _ => none
  | n + 1, r1, x2, x3, M => bb_X10_movesAll_67_r_119 (b_X10_movesAll_67_r_119 n) r1 x2 x3 M
set_option maxHeartbeats 4000000 in
theorem g_X10_movesAll_67_r_119  {n : Nat} {r1 : Nat} {x2 : Int32} {x3 : Int32} {M : Mm} {M' : Mm} (hE : Has shM (eH E)) (C : Cx RX10 cX10_movesAll 4 p (rmD 2) s m args meth c E) (hr : meth.sig.returnType = none) (hr1 : (eH E)[r1]? = some (.inl (1, 60, []))) (h : b_X10_movesAll_67_r_119 n r1 x2 x3 M = some M') : G p l e (rmD 2) s m args below meth c E 4 0 0 (QR below args s E 0 0 none M') 119 [(0, .ref (eA E 67)), (1, .ref (eA E (r1))), (2, .int x2), (3, .int x3)] [] M := by
  induction n generalizing r1 x2 x3 M with
  | zero => cases h
  | succ n ih => exact gb_X10_movesAll_67_r_119 hE C hr (fun _ _ _ _ => ih) hr1 h
def bb_X10_movesAll_67_r_85 (k_85 : Nat → Int32 → Int32 → Mm → Option Mm) (r1 : Nat) (x2 : Int32) (x3 : Int32) (M : Mm) : Option Mm := if (40 : Int32) ≤ x3 then (b_X10_movesAll_67_r_119 FU (r1) x2 (0 : Int32) M) else (gd (inb x3 40) (bd2 (f_X10_moves_67_r (r1) ((M.1 93 (ix x3)).toInt64) x2 M) fun v_25 M_24 => gd (inb x3 40) (ltv (wI M_24 93 (ix x3) (v_25.toInt32)) fun M_27 => ltv (x3 + (1 : Int32)) fun x3_28 => k_85 (r1) x2 x3_28 M_27)))
set_option maxHeartbeats 4000000 in
set_option maxRecDepth 100000 in
theorem gb_X10_movesAll_67_r_85  {k_85 : Nat → Int32 → Int32 → Mm → Option Mm} {r1 : Nat} {x2 : Int32} {x3 : Int32} {M : Mm} {M' : Mm} (hE : Has shM (eH E)) (C : Cx RX10 cX10_movesAll 4 p (rmD 2) s m args meth c E) (hr : meth.sig.returnType = none) (hk_85 : ∀ (r1 : Nat) (x2 : Int32) (x3 : Int32) (M : Mm), (eH E)[r1]? = some (.inl (1, 60, [])) → k_85 r1 x2 x3 M = some M' → G p l e (rmD 2) s m args below meth c E 4 0 0 (QR below args s E 0 0 none M') 85 [(0, .ref (eA E 67)), (1, .ref (eA E (r1))), (2, .int x2), (3, .int x3)] [] M) (hr1 : (eH E)[r1]? = some (.inl (1, 60, []))) (h : bb_X10_movesAll_67_r_85 k_85 r1 x2 x3 M = some M') : G p l e (rmD 2) s m args below meth c E 4 0 0 (QR below args s E 0 0 none M') 85 [(0, .ref (eA E 67)), (1, .ref (eA E (r1))), (2, .int x2), (3, .int x3)] [] M := by
  unfold bb_X10_movesAll_67_r_85 at h
  refine G.iload_n C 3 dX10_movesAll_85 rfl rfl ?_
  refine G.bipush (v := (40 : Int32)) C dX10_movesAll_86 (by decide) ?_
  refine G.icmp_ge (tgt := 117) C dX10_movesAll_88 (by decide) (fun hc => ?_) (fun hc => ?_)
  · have h := it_t h hc
    refine G.iconst (v := (0 : Int32)) C dX10_movesAll_117 (by decide) ?_
    refine G.istore_n (L' := [(3, .int (0 : Int32)), (0, .ref (eA E 67)), (1, .ref (eA E (r1))), (2, .int x2)]) C dX10_movesAll_118 rfl rfl (by decide) rfl ?_
    exact G.sub [1, 2, 3, 0] rfl (g_X10_movesAll_67_r_119 hE C hr hr1 h)
  · have h := it_f h hc
    refine G.aload_n C 0 dX10_movesAll_91 rfl rfl ?_
    refine G.getR (k := 28) C k_X10 (sm_67 hE) rfl (by decide) tg_1459 dX10_movesAll_92 ?_
    refine G.iload_n C 3 dX10_movesAll_95 rfl rfl ?_
    refine G.aload_n C 0 dX10_movesAll_96 rfl rfl ?_
    refine G.aload_n C 1 dX10_movesAll_97 rfl rfl ?_
    refine G.aload_n C 0 dX10_movesAll_98 rfl rfl ?_
    refine G.getR (k := 28) C k_X10 (sm_67 hE) rfl (by decide) tg_1459 dX10_movesAll_99 ?_
    refine G.iload_n C 3 dX10_movesAll_102 rfl rfl ?_
    obtain ⟨hg_22, h⟩ := gd_ex h
    refine G.aI (j := ix x3) C (sm_93 hE) hg_22 rfl dX10_movesAll_103 ?_
    refine G.i2l (v := (M.1 93 (ix x3)).toInt64) C dX10_movesAll_104 rfl ?_
    refine G.iload_n C 2 dX10_movesAll_105 rfl rfl ?_
    obtain ⟨v_25, M_24, hv_23, h⟩ := bd2_ex h
    refine G.callV (rest := [.int x3, .ref (eA E 93)]) C (s_X10_moves_67_r hE hr1 hv_23) ⟨tg_1977, tg_103, ok_X10_moves, Nat.le_of_ble_eq_true rfl, Nat.le_of_ble_eq_true rfl⟩ tg_1974 tg_1976 tg_88 (sm_67 hE) rfl rfl (Nat.le_of_ble_eq_true rfl) dX10_movesAll_106 ⟨Nat.le_refl 0, Nat.le_refl 0⟩ ?_
    refine G.l2i (v := v_25.toInt32) C dX10_movesAll_109 rfl ?_
    obtain ⟨hg_26, h⟩ := gd_ex h
    obtain ⟨M_27, eM_27, h⟩ := ltv_ex h
    refine G.sI (j := (ix x3)) C (sm_93 hE) hg_26 rfl dX10_movesAll_110 eM_27 ?_
    obtain ⟨x3_28, ex3_28, h⟩ := ltv_ex h
    refine G.iinc (L' := [(3, .int x3_28), (0, .ref (eA E 67)), (1, .ref (eA E (r1))), (2, .int x2)]) C 3 dX10_movesAll_111 rfl (ex3_28.trans rfl) (by decide) rfl ?_
    refine G.goto (tgt := 85) C dX10_movesAll_114 (by decide) ?_
    exact G.sub [1, 2, 3, 0] rfl (hk_85 _ _ _ _ hr1 h)
def b_X10_movesAll_67_r_85 : Nat → Nat → Int32 → Int32 → Mm → Option Mm
  | 0, _, _, _, _ => none
  | n + 1, r1, x2, x3, M => bb_X10_movesAll_67_r_85 (b_X10_movesAll_67_r_85 n) r1 x2 x3 M
set_option maxHeartbeats 4000000 in
theorem g_X10_movesAll_67_r_85  {n : Nat} {r1 : Nat} {x2 : Int32} {x3 : Int32} {M : Mm} {M' : Mm} (hE : Has shM (eH E)) (C : Cx RX10 cX10_movesAll 4 p (rmD 2) s m args meth c E) (hr : meth.sig.returnType = none) (hr1 : (eH E)[r1]? = some (.inl (1, 60, []))) (h : b_X10_movesAll_67_r_85 n r1 x2 x3 M = some M') : G p l e (rmD 2) s m args below meth c E 4 0 0 (QR below args s E 0 0 none M') 85 [(0, .ref (eA E 67)), (1, .ref (eA E (r1))), (2, .int x2), (3, .int x3)] [] M := by
  induction n generalizing r1 x2 x3 M with
  | zero => cases h
  | succ n ih => exact gb_X10_movesAll_67_r_85 hE C hr (fun _ _ _ _ => ih) hr1 h
def bb_X10_movesAll_67_r_0 (r1 : Nat) (x2 : Int32) (M : Mm) : Option Mm := ltv (wI M 67 31 (0 : Int32)) fun M_1 => bd2 (f_X10_moves_67_r (r1) (M_1.2 67 22) x2 M_1) fun v_4 M_3 => ltv (wJ M_3 67 22 v_4) fun M_5 => bd2 (f_X10_moves_67_r (r1) ((M_5.1 67 23).toInt64) x2 M_5) fun v_8 M_7 => ltv (wI M_7 67 23 (v_8.toInt32)) fun M_9 => bd2 (f_X10_moves_67_r (r1) ((M_9.1 67 24).toInt64) x2 M_9) fun v_12 M_11 => ltv (wI M_11 67 24 (v_12.toInt32)) fun M_13 => bd2 (f_X10_moves_67_r (r1) ((M_13.1 67 25).toInt64) x2 M_13) fun v_16 M_15 => ltv (wI M_15 67 25 (v_16.toInt32)) fun M_17 => bd2 (f_X10_moves_67_r (r1) ((M_17.1 67 26).toInt64) x2 M_17) fun v_20 M_19 => ltv (wI M_19 67 26 (v_20.toInt32)) fun M_21 => b_X10_movesAll_67_r_85 FU (r1) x2 (0 : Int32) M_21
set_option maxHeartbeats 4000000 in
set_option maxRecDepth 100000 in
theorem gb_X10_movesAll_67_r_0  {r1 : Nat} {x2 : Int32} {M : Mm} {M' : Mm} (hE : Has shM (eH E)) (C : Cx RX10 cX10_movesAll 4 p (rmD 2) s m args meth c E) (hr : meth.sig.returnType = none) (hr1 : (eH E)[r1]? = some (.inl (1, 60, []))) (h : bb_X10_movesAll_67_r_0 r1 x2 M = some M') : G p l e (rmD 2) s m args below meth c E 4 0 0 (QR below args s E 0 0 none M') 0 [(0, .ref (eA E 67)), (1, .ref (eA E (r1))), (2, .int x2)] [] M := by
  unfold bb_X10_movesAll_67_r_0 at h
  refine G.aload_n C 0 dX10_movesAll_0 rfl rfl ?_
  refine G.iconst (v := (0 : Int32)) C dX10_movesAll_1 (by decide) ?_
  obtain ⟨M_1, eM_1, h⟩ := ltv_ex h
  refine G.putI (k := 31) C k_X10 (sm_67 hE) rfl (by decide) tg_1462 rfl rfl dX10_movesAll_2 eM_1 ?_
  refine G.aload_n C 0 dX10_movesAll_5 rfl rfl ?_
  refine G.aload_n C 0 dX10_movesAll_6 rfl rfl ?_
  refine G.aload_n C 1 dX10_movesAll_7 rfl rfl ?_
  refine G.aload_n C 0 dX10_movesAll_8 rfl rfl ?_
  refine G.getJ (k := 22) C k_X10 (sm_67 hE) rfl (by decide) tg_1453 dX10_movesAll_9 ?_
  refine G.iload_n C 2 dX10_movesAll_12 rfl rfl ?_
  obtain ⟨v_4, M_3, hv_2, h⟩ := bd2_ex h
  refine G.callV (rest := [.ref (eA E 67)]) C (s_X10_moves_67_r hE hr1 hv_2) ⟨tg_1977, tg_103, ok_X10_moves, Nat.le_of_ble_eq_true rfl, Nat.le_of_ble_eq_true rfl⟩ tg_1974 tg_1976 tg_88 (sm_67 hE) rfl rfl (Nat.le_of_ble_eq_true rfl) dX10_movesAll_13 ⟨Nat.le_refl 0, Nat.le_refl 0⟩ ?_
  obtain ⟨M_5, eM_5, h⟩ := ltv_ex h
  refine G.putJ (k := 22) C k_X10 (sm_67 hE) rfl (by decide) tg_1453 rfl rfl dX10_movesAll_16 eM_5 ?_
  refine G.aload_n C 0 dX10_movesAll_19 rfl rfl ?_
  refine G.aload_n C 0 dX10_movesAll_20 rfl rfl ?_
  refine G.aload_n C 1 dX10_movesAll_21 rfl rfl ?_
  refine G.aload_n C 0 dX10_movesAll_22 rfl rfl ?_
  refine G.getI (k := 23) C k_X10 (sm_67 hE) rfl (by decide) tg_1454 dX10_movesAll_23 ?_
  refine G.i2l (v := (M_5.1 67 23).toInt64) C dX10_movesAll_26 rfl ?_
  refine G.iload_n C 2 dX10_movesAll_27 rfl rfl ?_
  obtain ⟨v_8, M_7, hv_6, h⟩ := bd2_ex h
  refine G.callV (rest := [.ref (eA E 67)]) C (s_X10_moves_67_r hE hr1 hv_6) ⟨tg_1977, tg_103, ok_X10_moves, Nat.le_of_ble_eq_true rfl, Nat.le_of_ble_eq_true rfl⟩ tg_1974 tg_1976 tg_88 (sm_67 hE) rfl rfl (Nat.le_of_ble_eq_true rfl) dX10_movesAll_28 ⟨Nat.le_refl 0, Nat.le_refl 0⟩ ?_
  refine G.l2i (v := v_8.toInt32) C dX10_movesAll_31 rfl ?_
  obtain ⟨M_9, eM_9, h⟩ := ltv_ex h
  refine G.putI (k := 23) C k_X10 (sm_67 hE) rfl (by decide) tg_1454 rfl rfl dX10_movesAll_32 eM_9 ?_
  refine G.aload_n C 0 dX10_movesAll_35 rfl rfl ?_
  refine G.aload_n C 0 dX10_movesAll_36 rfl rfl ?_
  refine G.aload_n C 1 dX10_movesAll_37 rfl rfl ?_
  refine G.aload_n C 0 dX10_movesAll_38 rfl rfl ?_
  refine G.getI (k := 24) C k_X10 (sm_67 hE) rfl (by decide) tg_1455 dX10_movesAll_39 ?_
  refine G.i2l (v := (M_9.1 67 24).toInt64) C dX10_movesAll_42 rfl ?_
  refine G.iload_n C 2 dX10_movesAll_43 rfl rfl ?_
  obtain ⟨v_12, M_11, hv_10, h⟩ := bd2_ex h
  refine G.callV (rest := [.ref (eA E 67)]) C (s_X10_moves_67_r hE hr1 hv_10) ⟨tg_1977, tg_103, ok_X10_moves, Nat.le_of_ble_eq_true rfl, Nat.le_of_ble_eq_true rfl⟩ tg_1974 tg_1976 tg_88 (sm_67 hE) rfl rfl (Nat.le_of_ble_eq_true rfl) dX10_movesAll_44 ⟨Nat.le_refl 0, Nat.le_refl 0⟩ ?_
  refine G.l2i (v := v_12.toInt32) C dX10_movesAll_47 rfl ?_
  obtain ⟨M_13, eM_13, h⟩ := ltv_ex h
  refine G.putI (k := 24) C k_X10 (sm_67 hE) rfl (by decide) tg_1455 rfl rfl dX10_movesAll_48 eM_13 ?_
  refine G.aload_n C 0 dX10_movesAll_51 rfl rfl ?_
  refine G.aload_n C 0 dX10_movesAll_52 rfl rfl ?_
  refine G.aload_n C 1 dX10_movesAll_53 rfl rfl ?_
  refine G.aload_n C 0 dX10_movesAll_54 rfl rfl ?_
  refine G.getI (k := 25) C k_X10 (sm_67 hE) rfl (by decide) tg_1456 dX10_movesAll_55 ?_
  refine G.i2l (v := (M_13.1 67 25).toInt64) C dX10_movesAll_58 rfl ?_
  refine G.iload_n C 2 dX10_movesAll_59 rfl rfl ?_
  obtain ⟨v_16, M_15, hv_14, h⟩ := bd2_ex h
  refine G.callV (rest := [.ref (eA E 67)]) C (s_X10_moves_67_r hE hr1 hv_14) ⟨tg_1977, tg_103, ok_X10_moves, Nat.le_of_ble_eq_true rfl, Nat.le_of_ble_eq_true rfl⟩ tg_1974 tg_1976 tg_88 (sm_67 hE) rfl rfl (Nat.le_of_ble_eq_true rfl) dX10_movesAll_60 ⟨Nat.le_refl 0, Nat.le_refl 0⟩ ?_
  refine G.l2i (v := v_16.toInt32) C dX10_movesAll_63 rfl ?_
  obtain ⟨M_17, eM_17, h⟩ := ltv_ex h
  refine G.putI (k := 25) C k_X10 (sm_67 hE) rfl (by decide) tg_1456 rfl rfl dX10_movesAll_64 eM_17 ?_
  refine G.aload_n C 0 dX10_movesAll_67 rfl rfl ?_
  refine G.aload_n C 0 dX10_movesAll_68 rfl rfl ?_
  refine G.aload_n C 1 dX10_movesAll_69 rfl rfl ?_
  refine G.aload_n C 0 dX10_movesAll_70 rfl rfl ?_
  refine G.getI (k := 26) C k_X10 (sm_67 hE) rfl (by decide) tg_1457 dX10_movesAll_71 ?_
  refine G.i2l (v := (M_17.1 67 26).toInt64) C dX10_movesAll_74 rfl ?_
  refine G.iload_n C 2 dX10_movesAll_75 rfl rfl ?_
  obtain ⟨v_20, M_19, hv_18, h⟩ := bd2_ex h
  refine G.callV (rest := [.ref (eA E 67)]) C (s_X10_moves_67_r hE hr1 hv_18) ⟨tg_1977, tg_103, ok_X10_moves, Nat.le_of_ble_eq_true rfl, Nat.le_of_ble_eq_true rfl⟩ tg_1974 tg_1976 tg_88 (sm_67 hE) rfl rfl (Nat.le_of_ble_eq_true rfl) dX10_movesAll_76 ⟨Nat.le_refl 0, Nat.le_refl 0⟩ ?_
  refine G.l2i (v := v_20.toInt32) C dX10_movesAll_79 rfl ?_
  obtain ⟨M_21, eM_21, h⟩ := ltv_ex h
  refine G.putI (k := 26) C k_X10 (sm_67 hE) rfl (by decide) tg_1457 rfl rfl dX10_movesAll_80 eM_21 ?_
  refine G.iconst (v := (0 : Int32)) C dX10_movesAll_83 (by decide) ?_
  refine G.istore_n (L' := [(3, .int (0 : Int32)), (0, .ref (eA E 67)), (1, .ref (eA E (r1))), (2, .int x2)]) C dX10_movesAll_84 rfl rfl (by decide) rfl ?_
  exact G.sub [1, 2, 3, 0] rfl (g_X10_movesAll_67_r_85 hE C hr hr1 h)
def f_X10_movesAll_67_r (r1 : Nat) (x2 : Int32) (M : Mm) : Option Mm := bb_X10_movesAll_67_r_0 r1 x2 M
theorem s_X10_movesAll_67_r {l : Launch} {E : Ev} {r1 : Nat} {x2 : Int32} {M : Mm} {M' : Mm} (hE : Has shM (eH E)) (hr1 : (eH E)[r1]? = some (.inl (1, 60, []))) (h : f_X10_movesAll_67_r r1 x2 M = some M') : MetA l yX10_movesAll cX10_movesAll 4 none 2 E [.ref (eA E 67), .ref (eA E (r1)), .int x2] M none M' := by
  refine MetA.of (by decide +kernel) (Nat.le_of_ble_eq_true rfl) ?_
  intro p e s m below meth c C hr hnm
  exact G.sub [0, 1, 2] rfl (gb_X10_movesAll_67_r_0 hE C hr hr1 h)
def bb_X10_image_67_0  (M : Mm) : Option (Int32 × Mm) := ltv (wI M 67 0 (0 : Int32)) fun M_1 => if (M_1.1 67 27) = (3 : Int32) then (some ((-1 : Int32), M_1)) else (gd (inb (M_1.1 67 27) 3) (bd (f_X10_movesAll_67_r (96 + ix (M_1.1 67 27)) (0 : Int32) M_1) fun M_5 => ltv (wI M_5 67 27 ((M_5.1 67 27) + (1 : Int32))) fun M_6 => some (M_6.1 67 27, M_6)))
set_option maxHeartbeats 4000000 in
set_option maxRecDepth 100000 in
theorem gb_X10_image_67_0   {M : Mm} {v : Int32} {M' : Mm} (hE : Has shM (eH E)) (C : Cx RX10 cX10_image 1 p (rmD 3) s m args meth c E) (hr : meth.sig.returnType = (some .int)) (h : bb_X10_image_67_0 M = some (v, M')) : G p l e (rmD 3) s m args below meth c E 1 0 0 (QR below args s E 0 0 (some (.int v)) M') 0 [(0, .ref (eA E 67))] [] M := by
  unfold bb_X10_image_67_0 at h
  refine G.aload_n C 0 dX10_image_0 rfl rfl ?_
  refine G.iconst (v := (0 : Int32)) C dX10_image_1 (by decide) ?_
  obtain ⟨M_1, eM_1, h⟩ := ltv_ex h
  refine G.putI (k := 0) C k_X10 (sm_67 hE) rfl (by decide) tg_1431 rfl rfl dX10_image_2 eM_1 ?_
  refine G.aload_n C 0 dX10_image_5 rfl rfl ?_
  refine G.getI (k := 27) C k_X10 (sm_67 hE) rfl (by decide) tg_1458 dX10_image_6 ?_
  refine G.iconst (v := (3 : Int32)) C dX10_image_9 (by decide) ?_
  refine G.icmp_ne (tgt := 15) C dX10_image_10 (by decide) (fun hc => ?_) (fun hc => ?_)
  · have h := it_f h hc
    refine G.aload_n C 0 dX10_image_15 rfl rfl ?_
    refine G.aload_n C 0 dX10_image_16 rfl rfl ?_
    refine G.getR (k := 30) C k_X10 (sm_67 hE) rfl (by decide) tg_1461 dX10_image_17 ?_
    refine G.aload_n C 0 dX10_image_20 rfl rfl ?_
    refine G.getI (k := 27) C k_X10 (sm_67 hE) rfl (by decide) tg_1458 dX10_image_21 ?_
    obtain ⟨hg_2, h⟩ := gd_ex h
    refine aald_q (k := 2) (t := 96 + ix (M_1.1 67 27)) (ty := .array .long) C (sm_95 hE) rfl rfl hg_2 (rowE_95 hg_2) dX10_image_24 ?_
    have hq_3 := rowS_95 hE hg_2
    refine G.iconst (v := (0 : Int32)) C dX10_image_25 (by decide) ?_
    obtain ⟨M_5, hv_4, h⟩ := bd_ex h
    refine G.callV (rest := []) C (s_X10_movesAll_67_r hE hq_3 hv_4) ⟨tg_1973, tg_103, ok_X10_movesAll, Nat.le_of_ble_eq_true rfl, Nat.le_of_ble_eq_true rfl⟩ tg_1970 tg_1972 tg_87 (sm_67 hE) rfl rfl (Nat.le_of_ble_eq_true rfl) dX10_image_26 ⟨Nat.le_refl 0, Nat.le_refl 0⟩ ?_
    refine G.aload_n C 0 dX10_image_29 rfl rfl ?_
    refine G.dup C dX10_image_30 rfl ?_
    refine G.getI (k := 27) C k_X10 (sm_67 hE) rfl (by decide) tg_1458 dX10_image_31 ?_
    refine G.iconst (v := (1 : Int32)) C dX10_image_34 (by decide) ?_
    refine G.iadd C dX10_image_35 ?_
    obtain ⟨M_6, eM_6, h⟩ := ltv_ex h
    refine G.putI (k := 27) C k_X10 (sm_67 hE) rfl (by decide) tg_1458 rfl rfl dX10_image_36 eM_6 ?_
    refine G.aload_n C 0 dX10_image_39 rfl rfl ?_
    refine G.getI (k := 27) C k_X10 (sm_67 hE) rfl (by decide) tg_1458 dX10_image_40 ?_
    cases h
    exact G.iret C hr dX10_image_43
  · have h := it_t h hc
    refine G.iconst (v := (-1 : Int32)) C dX10_image_13 (by decide) ?_
    cases h
    exact G.iret C hr dX10_image_14
def f_X10_image_67  (M : Mm) : Option (Int32 × Mm) := bb_X10_image_67_0 M
theorem s_X10_image_67 {l : Launch} {E : Ev}  {M : Mm} {v : Int32} {M' : Mm} (hE : Has shM (eH E)) (h : f_X10_image_67 M = some (v, M')) : MetA l yX10_image cX10_image 1 (some .int) 3 E [.ref (eA E 67)] M (some (.int v)) M' := by
  refine MetA.of (by decide +kernel) (Nat.le_of_ble_eq_true rfl) ?_
  intro p e s m below meth c C hr hnm
  exact G.sub [0] rfl (gb_X10_image_67_0 hE C hr  h)
def bb_X10_restore_67_0  (M : Mm) : Option (Int32 × Mm) := ltv (wI M 67 0 (0 : Int32)) fun M_1 => if (M_1.1 67 27) = 0 then (some ((-1 : Int32), M_1)) else (ltv (wI M_1 67 27 ((M_1.1 67 27) - (1 : Int32))) fun M_2 => gd (inb (M_2.1 67 27) 3) (bd (f_X10_movesAll_67_r (96 + ix (M_2.1 67 27)) (1 : Int32) M_2) fun M_6 => some (M_6.1 67 27, M_6)))
set_option maxHeartbeats 4000000 in
set_option maxRecDepth 100000 in
theorem gb_X10_restore_67_0   {M : Mm} {v : Int32} {M' : Mm} (hE : Has shM (eH E)) (C : Cx RX10 cX10_restore 1 p (rmD 3) s m args meth c E) (hr : meth.sig.returnType = (some .int)) (h : bb_X10_restore_67_0 M = some (v, M')) : G p l e (rmD 3) s m args below meth c E 1 0 0 (QR below args s E 0 0 (some (.int v)) M') 0 [(0, .ref (eA E 67))] [] M := by
  unfold bb_X10_restore_67_0 at h
  refine G.aload_n C 0 dX10_restore_0 rfl rfl ?_
  refine G.iconst (v := (0 : Int32)) C dX10_restore_1 (by decide) ?_
  obtain ⟨M_1, eM_1, h⟩ := ltv_ex h
  refine G.putI (k := 0) C k_X10 (sm_67 hE) rfl (by decide) tg_1431 rfl rfl dX10_restore_2 eM_1 ?_
  refine G.aload_n C 0 dX10_restore_5 rfl rfl ?_
  refine G.getI (k := 27) C k_X10 (sm_67 hE) rfl (by decide) tg_1458 dX10_restore_6 ?_
  refine G.if_ne (tgt := 14) C dX10_restore_9 (by decide) (fun hc => ?_) (fun hc => ?_)
  · have h := it_f h hc
    refine G.aload_n C 0 dX10_restore_14 rfl rfl ?_
    refine G.dup C dX10_restore_15 rfl ?_
    refine G.getI (k := 27) C k_X10 (sm_67 hE) rfl (by decide) tg_1458 dX10_restore_16 ?_
    refine G.iconst (v := (1 : Int32)) C dX10_restore_19 (by decide) ?_
    refine G.isub C dX10_restore_20 ?_
    obtain ⟨M_2, eM_2, h⟩ := ltv_ex h
    refine G.putI (k := 27) C k_X10 (sm_67 hE) rfl (by decide) tg_1458 rfl rfl dX10_restore_21 eM_2 ?_
    refine G.aload_n C 0 dX10_restore_24 rfl rfl ?_
    refine G.aload_n C 0 dX10_restore_25 rfl rfl ?_
    refine G.getR (k := 30) C k_X10 (sm_67 hE) rfl (by decide) tg_1461 dX10_restore_26 ?_
    refine G.aload_n C 0 dX10_restore_29 rfl rfl ?_
    refine G.getI (k := 27) C k_X10 (sm_67 hE) rfl (by decide) tg_1458 dX10_restore_30 ?_
    obtain ⟨hg_3, h⟩ := gd_ex h
    refine aald_q (k := 2) (t := 96 + ix (M_2.1 67 27)) (ty := .array .long) C (sm_95 hE) rfl rfl hg_3 (rowE_95 hg_3) dX10_restore_33 ?_
    have hq_4 := rowS_95 hE hg_3
    refine G.iconst (v := (1 : Int32)) C dX10_restore_34 (by decide) ?_
    obtain ⟨M_6, hv_5, h⟩ := bd_ex h
    refine G.callV (rest := []) C (s_X10_movesAll_67_r hE hq_4 hv_5) ⟨tg_1973, tg_103, ok_X10_movesAll, Nat.le_of_ble_eq_true rfl, Nat.le_of_ble_eq_true rfl⟩ tg_1970 tg_1972 tg_87 (sm_67 hE) rfl rfl (Nat.le_of_ble_eq_true rfl) dX10_restore_35 ⟨Nat.le_refl 0, Nat.le_refl 0⟩ ?_
    refine G.aload_n C 0 dX10_restore_38 rfl rfl ?_
    refine G.getI (k := 27) C k_X10 (sm_67 hE) rfl (by decide) tg_1458 dX10_restore_39 ?_
    cases h
    exact G.iret C hr dX10_restore_42
  · have h := it_t h hc
    refine G.iconst (v := (-1 : Int32)) C dX10_restore_12 (by decide) ?_
    cases h
    exact G.iret C hr dX10_restore_13
def f_X10_restore_67  (M : Mm) : Option (Int32 × Mm) := bb_X10_restore_67_0 M
theorem s_X10_restore_67 {l : Launch} {E : Ev}  {M : Mm} {v : Int32} {M' : Mm} (hE : Has shM (eH E)) (h : f_X10_restore_67 M = some (v, M')) : MetA l yX10_restore cX10_restore 1 (some .int) 3 E [.ref (eA E 67)] M (some (.int v)) M' := by
  refine MetA.of (by decide +kernel) (Nat.le_of_ble_eq_true rfl) ?_
  intro p e s m below meth c C hr hnm
  exact G.sub [0] rfl (gb_X10_restore_67_0 hE C hr  h)
def bb_X10_count_67_0 (x1 : Int32) (M : Mm) : Option (Int32 × Mm) := ltv (wI M 67 0 (0 : Int32)) fun M_1 => if x1 = (0 : Int32) then (some (M_1.1 67 25, M_1)) else (if x1 = (1 : Int32) then (some (M_1.1 67 26, M_1)) else (if x1 = (2 : Int32) then (some (M_1.1 67 27, M_1)) else (if x1 = (3 : Int32) then (some (M_1.1 67 1, M_1)) else (some ((-1 : Int32), M_1)))))
set_option maxHeartbeats 4000000 in
set_option maxRecDepth 100000 in
theorem gb_X10_count_67_0  {x1 : Int32} {M : Mm} {v : Int32} {M' : Mm} (hE : Has shM (eH E)) (C : Cx RX10 cX10_count 2 p (rmD 1) s m args meth c E) (hr : meth.sig.returnType = (some .int)) (h : bb_X10_count_67_0 x1 M = some (v, M')) : G p l e (rmD 1) s m args below meth c E 2 0 0 (QR below args s E 0 0 (some (.int v)) M') 0 [(0, .ref (eA E 67)), (1, .int x1)] [] M := by
  unfold bb_X10_count_67_0 at h
  refine G.aload_n C 0 dX10_count_0 rfl rfl ?_
  refine G.iconst (v := (0 : Int32)) C dX10_count_1 (by decide) ?_
  obtain ⟨M_1, eM_1, h⟩ := ltv_ex h
  refine G.putI (k := 0) C k_X10 (sm_67 hE) rfl (by decide) tg_1431 rfl rfl dX10_count_2 eM_1 ?_
  refine G.iload_n C 1 dX10_count_5 rfl rfl ?_
  by_cases hc0 : x1 = (0 : Int32)
  · have h := it_t h hc0
    refine G.tableIn (tgt := 36) C dX10_count_6 (by rw [hc0]; decide) (by rw [hc0]; decide) (by rw [hc0]; rfl) (by decide) ?_
    refine G.aload_n C 0 dX10_count_36 rfl rfl ?_
    refine G.getI (k := 25) C k_X10 (sm_67 hE) rfl (by decide) tg_1456 dX10_count_37 ?_
    cases h
    exact G.iret C hr dX10_count_40
  have h := it_f h hc0
  by_cases hc1 : x1 = (1 : Int32)
  · have h := it_t h hc1
    refine G.tableIn (tgt := 41) C dX10_count_6 (by rw [hc1]; decide) (by rw [hc1]; decide) (by rw [hc1]; rfl) (by decide) ?_
    refine G.aload_n C 0 dX10_count_41 rfl rfl ?_
    refine G.getI (k := 26) C k_X10 (sm_67 hE) rfl (by decide) tg_1457 dX10_count_42 ?_
    cases h
    exact G.iret C hr dX10_count_45
  have h := it_f h hc1
  by_cases hc2 : x1 = (2 : Int32)
  · have h := it_t h hc2
    refine G.tableIn (tgt := 46) C dX10_count_6 (by rw [hc2]; decide) (by rw [hc2]; decide) (by rw [hc2]; rfl) (by decide) ?_
    refine G.aload_n C 0 dX10_count_46 rfl rfl ?_
    refine G.getI (k := 27) C k_X10 (sm_67 hE) rfl (by decide) tg_1458 dX10_count_47 ?_
    cases h
    exact G.iret C hr dX10_count_50
  have h := it_f h hc2
  by_cases hc3 : x1 = (3 : Int32)
  · have h := it_t h hc3
    refine G.tableIn (tgt := 51) C dX10_count_6 (by rw [hc3]; decide) (by rw [hc3]; decide) (by rw [hc3]; rfl) (by decide) ?_
    refine G.aload_n C 0 dX10_count_51 rfl rfl ?_
    refine G.getI (k := 1) C k_X10 (sm_67 hE) rfl (by decide) tg_1432 dX10_count_52 ?_
    cases h
    exact G.iret C hr dX10_count_55
  have h := it_f h hc3
  refine G.tableOut (tgt := 56) C dX10_count_6 (by have q0 := ne_toInt (z := 0) (by decide) hc0; have q1 := ne_toInt (z := 1) (by decide) hc1; have q2 := ne_toInt (z := 2) (by decide) hc2; have q3 := ne_toInt (z := 3) (by decide) hc3; omega) (by decide) ?_
  refine G.iconst (v := (-1 : Int32)) C dX10_count_56 (by decide) ?_
  cases h
  exact G.iret C hr dX10_count_57
def f_X10_count_67 (x1 : Int32) (M : Mm) : Option (Int32 × Mm) := bb_X10_count_67_0 x1 M
theorem s_X10_count_67 {l : Launch} {E : Ev} {x1 : Int32} {M : Mm} {v : Int32} {M' : Mm} (hE : Has shM (eH E)) (h : f_X10_count_67 x1 M = some (v, M')) : MetA l yX10_count cX10_count 2 (some .int) 1 E [.ref (eA E 67), .int x1] M (some (.int v)) M' := by
  refine MetA.of (by decide +kernel) (Nat.le_of_ble_eq_true rfl) ?_
  intro p e s m below meth c C hr hnm
  exact G.sub [0, 1] rfl (gb_X10_count_67_0 hE C hr  h)
end
