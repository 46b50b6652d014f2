section
variable {p : Program} {l : Launch} {e : Env} {s : State} {m : MethodId} {args : Array Value} {below : List Frame} {meth : Method} {c : Code} {E : Ev}
def bb_X10_isChance_0 (x0 : Int32) (x1 : Int32) : Option Int32 := bd (f_X10_in x0 (0 : Int32) (15 : Int32)) fun v_2 => if v_2 = 0 then (some (0 : Int32)) else (bd (f_X10_in x1 (0 : Int32) (15 : Int32)) fun v_4 => if v_4 = 0 then (some (0 : Int32)) else (some (1 : Int32)))
set_option maxHeartbeats 4000000 in
set_option maxRecDepth 100000 in
theorem gb_X10_isChance_0 {M : Mm}  {x0 : Int32} {x1 : Int32} {v : Int32} (C : Cx RX10 cX10_isChance 2 p (rmD 2) s m args meth c E) (hr : meth.sig.returnType = (some .boolean)) (h : bb_X10_isChance_0 x0 x1 = some v) : G p l e (rmD 2) s m args below meth c E 2 0 0 (QR below args s E 0 0 (some (.int v)) M) 0 [(0, .int x0), (1, .int x1)] [] M := by
  unfold bb_X10_isChance_0 at h
  refine G.iload_n C 0 dX10_isChance_0 rfl rfl ?_
  refine G.iconst (v := (0 : Int32)) C dX10_isChance_1 (by decide) ?_
  refine G.bipush (v := (15 : Int32)) C dX10_isChance_2 (by decide) ?_
  obtain ⟨v_2, hv_1, h⟩ := bd_ex h
  refine G.callS (rest := []) C (s_X10_in  hv_1) ⟨tg_1596, tg_103, ok_X10_in, Nat.le_of_ble_eq_true rfl, Nat.le_of_ble_eq_true rfl⟩ tg_1594 tg_1595 rfl (Nat.le_of_ble_eq_true rfl) dX10_isChance_4 ⟨Nat.le_refl 0, Nat.le_refl 0⟩ ?_
  refine G.if_eq (tgt := 24) C dX10_isChance_7 (by decide) (fun hc => ?_) (fun hc => ?_)
  · have h := it_t h hc
    refine G.iconst (v := (0 : Int32)) C dX10_isChance_24 (by decide) ?_
    cases h
    exact G.zret C hr rfl dX10_isChance_25
  · have h := it_f h hc
    refine G.iload_n C 1 dX10_isChance_10 rfl rfl ?_
    refine G.iconst (v := (0 : Int32)) C dX10_isChance_11 (by decide) ?_
    refine G.bipush (v := (15 : Int32)) C dX10_isChance_12 (by decide) ?_
    obtain ⟨v_4, hv_3, h⟩ := bd_ex h
    refine G.callS (rest := []) C (s_X10_in  hv_3) ⟨tg_1596, tg_103, ok_X10_in, Nat.le_of_ble_eq_true rfl, Nat.le_of_ble_eq_true rfl⟩ tg_1594 tg_1595 rfl (Nat.le_of_ble_eq_true rfl) dX10_isChance_14 ⟨Nat.le_refl 0, Nat.le_refl 0⟩ ?_
    refine G.if_eq (tgt := 24) C dX10_isChance_17 (by decide) (fun hc => ?_) (fun hc => ?_)
    · have h := it_t h hc
      refine G.iconst (v := (0 : Int32)) C dX10_isChance_24 (by decide) ?_
      cases h
      exact G.zret C hr rfl dX10_isChance_25
    · have h := it_f h hc
      refine G.iconst (v := (1 : Int32)) C dX10_isChance_20 (by decide) ?_
      refine G.goto (tgt := 25) C dX10_isChance_21 (by decide) ?_
      cases h
      exact G.zret C hr rfl dX10_isChance_25
def f_X10_isChance (x0 : Int32) (x1 : Int32) : Option Int32 := bb_X10_isChance_0 x0 x1
theorem s_X10_isChance {l : Launch} {E : Ev} {x0 : Int32} {x1 : Int32} {M : Mm} {v : Int32} (h : f_X10_isChance x0 x1 = some v) : MetA l yX10_isChance cX10_isChance 2 (some .boolean) 2 E [.int x0, .int x1] M (some (.int v)) M := by
  refine MetA.of (by decide +kernel) (Nat.le_of_ble_eq_true rfl) ?_
  intro p e s m below meth c C hr hnm
  exact G.sub [0, 1] rfl (gb_X10_isChance_0 C hr  h)
def bb_X10_isLater_67_18 (x1 : Int32) (x2 : Int32) (M : Mm) : Option Int32 := gd (inb x1 64) (if (M.1 105 (ix x1)) = 0 then (gd (inb x2 64) (if (M.1 105 (ix x2)) ≤ 0 then (some (0 : Int32)) else (some (1 : Int32)))) else (some (0 : Int32)))
set_option maxHeartbeats 4000000 in
set_option maxRecDepth 100000 in
theorem gb_X10_isLater_67_18  {x1 : Int32} {x2 : Int32} {M : Mm} {v : Int32} (hE : Has shM (eH E)) (C : Cx RX10 cX10_isLater 3 p (rmD 1) s m args meth c E) (hr : meth.sig.returnType = (some .boolean)) (h : bb_X10_isLater_67_18 x1 x2 M = some v) : G p l e (rmD 1) s m args below meth c E 3 0 0 (QR below args s E 0 0 (some (.int v)) M) 18 [(0, .ref (eA E 67)), (1, .int x1), (2, .int x2)] [] M := by
  unfold bb_X10_isLater_67_18 at h
  refine G.aload_n C 0 dX10_isLater_18 rfl rfl ?_
  refine G.getR (k := 39) C k_X10 (sm_67 hE) rfl (by decide) tg_1470 dX10_isLater_19 ?_
  refine G.iload_n C 1 dX10_isLater_22 rfl rfl ?_
  obtain ⟨hg_7, h⟩ := gd_ex h
  refine G.aI (j := ix x1) C (sm_105 hE) hg_7 rfl dX10_isLater_23 ?_
  refine G.if_ne (tgt := 40) C dX10_isLater_24 (by decide) (fun hc => ?_) (fun hc => ?_)
  · have h := it_f h hc
    refine G.iconst (v := (0 : Int32)) C dX10_isLater_40 (by decide) ?_
    cases h
    exact G.zret C hr rfl dX10_isLater_41
  · have h := it_t h hc
    refine G.aload_n C 0 dX10_isLater_27 rfl rfl ?_
    refine G.getR (k := 39) C k_X10 (sm_67 hE) rfl (by decide) tg_1470 dX10_isLater_28 ?_
    refine G.iload_n C 2 dX10_isLater_31 rfl rfl ?_
    obtain ⟨hg_8, h⟩ := gd_ex h
    refine G.aI (j := ix x2) C (sm_105 hE) hg_8 rfl dX10_isLater_32 ?_
    refine G.if_le (tgt := 40) C dX10_isLater_33 (by decide) (fun hc => ?_) (fun hc => ?_)
    · have h := it_t h hc
      refine G.iconst (v := (0 : Int32)) C dX10_isLater_40 (by decide) ?_
      cases h
      exact G.zret C hr rfl dX10_isLater_41
    · have h := it_f h hc
      refine G.iconst (v := (1 : Int32)) C dX10_isLater_36 (by decide) ?_
      refine G.goto (tgt := 41) C dX10_isLater_37 (by decide) ?_
      cases h
      exact G.zret C hr rfl dX10_isLater_41
def bb_X10_isLater_67_0 (x1 : Int32) (x2 : Int32) (M : Mm) : Option Int32 := gd (inb x1 64) (if (M.1 105 (ix x1)) = 0 then (bb_X10_isLater_67_18 x1 x2 M) else (gd (inb x2 64) (if (M.1 105 (ix x2)) = 0 then (bb_X10_isLater_67_18 x1 x2 M) else (gd (inb x1 64) (gd (inb x2 64) (gd (inb x2 64) (gd (inb x1 64) (if ((M.1 104 (ix x1)) * (M.1 105 (ix x2))) ≤ ((M.1 104 (ix x2)) * (M.1 105 (ix x1))) then (some (0 : Int32)) else (some (1 : Int32))))))))))
set_option maxHeartbeats 4000000 in
set_option maxRecDepth 100000 in
theorem gb_X10_isLater_67_0  {x1 : Int32} {x2 : Int32} {M : Mm} {v : Int32} (hE : Has shM (eH E)) (C : Cx RX10 cX10_isLater 3 p (rmD 1) s m args meth c E) (hr : meth.sig.returnType = (some .boolean)) (h : bb_X10_isLater_67_0 x1 x2 M = some v) : G p l e (rmD 1) s m args below meth c E 3 0 0 (QR below args s E 0 0 (some (.int v)) M) 0 [(0, .ref (eA E 67)), (1, .int x1), (2, .int x2)] [] M := by
  unfold bb_X10_isLater_67_0 at h
  refine G.aload_n C 0 dX10_isLater_0 rfl rfl ?_
  refine G.getR (k := 39) C k_X10 (sm_67 hE) rfl (by decide) tg_1470 dX10_isLater_1 ?_
  refine G.iload_n C 1 dX10_isLater_4 rfl rfl ?_
  obtain ⟨hg_1, h⟩ := gd_ex h
  refine G.aI (j := ix x1) C (sm_105 hE) hg_1 rfl dX10_isLater_5 ?_
  refine G.if_eq (tgt := 18) C dX10_isLater_6 (by decide) (fun hc => ?_) (fun hc => ?_)
  · have h := it_t h hc
    exact G.sub [0, 1, 2] rfl (gb_X10_isLater_67_18 hE C hr  h)
  · have h := it_f h hc
    refine G.aload_n C 0 dX10_isLater_9 rfl rfl ?_
    refine G.getR (k := 39) C k_X10 (sm_67 hE) rfl (by decide) tg_1470 dX10_isLater_10 ?_
    refine G.iload_n C 2 dX10_isLater_13 rfl rfl ?_
    obtain ⟨hg_2, h⟩ := gd_ex h
    refine G.aI (j := ix x2) C (sm_105 hE) hg_2 rfl dX10_isLater_14 ?_
    refine G.if_ne (tgt := 42) C dX10_isLater_15 (by decide) (fun hc => ?_) (fun hc => ?_)
    · have h := it_f h hc
      refine G.aload_n C 0 dX10_isLater_42 rfl rfl ?_
      refine G.getR (k := 38) C k_X10 (sm_67 hE) rfl (by decide) tg_1469 dX10_isLater_43 ?_
      refine G.iload_n C 1 dX10_isLater_46 rfl rfl ?_
      obtain ⟨hg_3, h⟩ := gd_ex h
      refine G.aI (j := ix x1) C (sm_104 hE) hg_3 rfl dX10_isLater_47 ?_
      refine G.aload_n C 0 dX10_isLater_48 rfl rfl ?_
      refine G.getR (k := 39) C k_X10 (sm_67 hE) rfl (by decide) tg_1470 dX10_isLater_49 ?_
      refine G.iload_n C 2 dX10_isLater_52 rfl rfl ?_
      obtain ⟨hg_4, h⟩ := gd_ex h
      refine G.aI (j := ix x2) C (sm_105 hE) hg_4 rfl dX10_isLater_53 ?_
      refine G.imul C dX10_isLater_54 ?_
      refine G.aload_n C 0 dX10_isLater_55 rfl rfl ?_
      refine G.getR (k := 38) C k_X10 (sm_67 hE) rfl (by decide) tg_1469 dX10_isLater_56 ?_
      refine G.iload_n C 2 dX10_isLater_59 rfl rfl ?_
      obtain ⟨hg_5, h⟩ := gd_ex h
      refine G.aI (j := ix x2) C (sm_104 hE) hg_5 rfl dX10_isLater_60 ?_
      refine G.aload_n C 0 dX10_isLater_61 rfl rfl ?_
      refine G.getR (k := 39) C k_X10 (sm_67 hE) rfl (by decide) tg_1470 dX10_isLater_62 ?_
      refine G.iload_n C 1 dX10_isLater_65 rfl rfl ?_
      obtain ⟨hg_6, h⟩ := gd_ex h
      refine G.aI (j := ix x1) C (sm_105 hE) hg_6 rfl dX10_isLater_66 ?_
      refine G.imul C dX10_isLater_67 ?_
      refine G.icmp_le (tgt := 75) C dX10_isLater_68 (by decide) (fun hc => ?_) (fun hc => ?_)
      · have h := it_t h hc
        refine G.iconst (v := (0 : Int32)) C dX10_isLater_75 (by decide) ?_
        cases h
        exact G.zret C hr rfl dX10_isLater_76
      · have h := it_f h hc
        refine G.iconst (v := (1 : Int32)) C dX10_isLater_71 (by decide) ?_
        refine G.goto (tgt := 76) C dX10_isLater_72 (by decide) ?_
        cases h
        exact G.zret C hr rfl dX10_isLater_76
    · have h := it_t h hc
      exact G.sub [0, 1, 2] rfl (gb_X10_isLater_67_18 hE C hr  h)
def f_X10_isLater_67 (x1 : Int32) (x2 : Int32) (M : Mm) : Option Int32 := bb_X10_isLater_67_0 x1 x2 M
theorem s_X10_isLater_67 {l : Launch} {E : Ev} {x1 : Int32} {x2 : Int32} {M : Mm} {v : Int32} (hE : Has shM (eH E)) (h : f_X10_isLater_67 x1 x2 M = some v) : MetA l yX10_isLater cX10_isLater 3 (some .boolean) 1 E [.ref (eA E 67), .int x1, .int x2] M (some (.int v)) M := by
  refine MetA.of (by decide +kernel) (Nat.le_of_ble_eq_true rfl) ?_
  intro p e s m below meth c C hr hnm
  exact G.sub [0, 1, 2] rfl (gb_X10_isLater_67_0 hE C hr  h)
def bb_X10_swaps_67_104_0 (x2 : Int32) (M : Mm) : Option Mm := gd (inb x2 64) (ltv (M.1 104 (ix x2)) fun x3_2 => gd (inb (x2 + (1 : Int32)) 64) (gd (inb x2 64) (ltv (wI M 104 (ix x2) (M.1 104 (ix (x2 + (1 : Int32))))) fun M_5 => gd (inb (x2 + (1 : Int32)) 64) (ltv (wI M_5 104 (ix (x2 + (1 : Int32))) x3_2) fun M_7 => some M_7))))
set_option maxHeartbeats 4000000 in
set_option maxRecDepth 100000 in
theorem gb_X10_swaps_67_104_0  {x2 : Int32} {M : Mm} {M' : Mm} (hE : Has shM (eH E)) (C : Cx RX10 cX10_swaps 4 p (rmD 1) s m args meth c E) (hr : meth.sig.returnType = none) (h : bb_X10_swaps_67_104_0 x2 M = some M') : G p l e (rmD 1) s m args below meth c E 4 0 0 (QR below args s E 0 0 none M') 0 [(0, .ref (eA E 67)), (1, .ref (eA E 104)), (2, .int x2)] [] M := by
  unfold bb_X10_swaps_67_104_0 at h
  refine G.aload_n C 1 dX10_swaps_0 rfl rfl ?_
  refine G.iload_n C 2 dX10_swaps_1 rfl rfl ?_
  obtain ⟨hg_1, h⟩ := gd_ex h
  refine G.aI (j := ix x2) C (sm_104 hE) hg_1 rfl dX10_swaps_2 ?_
  obtain ⟨x3_2, ex3_2, h⟩ := ltv_ex h
  refine G.istore_n (L' := [(3, .int x3_2), (0, .ref (eA E 67)), (1, .ref (eA E 104)), (2, .int x2)]) C dX10_swaps_3 rfl ex3_2 (by decide) rfl ?_
  refine G.aload_n C 2 dX10_swaps_4 rfl rfl ?_
  refine G.iload_n C 3 dX10_swaps_5 rfl rfl ?_
  refine G.aload_n C 2 dX10_swaps_6 rfl rfl ?_
  refine G.iload_n C 3 dX10_swaps_7 rfl rfl ?_
  refine G.iconst (v := (1 : Int32)) C dX10_swaps_8 (by decide) ?_
  refine G.iadd C dX10_swaps_9 ?_
  obtain ⟨hg_3, h⟩ := gd_ex h
  refine G.aI (j := ix (x2 + (1 : Int32))) C (sm_104 hE) hg_3 rfl dX10_swaps_10 ?_
  obtain ⟨hg_4, h⟩ := gd_ex h
  obtain ⟨M_5, eM_5, h⟩ := ltv_ex h
  refine G.sI (j := (ix x2)) C (sm_104 hE) hg_4 rfl dX10_swaps_11 eM_5 ?_
  refine G.aload_n C 2 dX10_swaps_12 rfl rfl ?_
  refine G.iload_n C 3 dX10_swaps_13 rfl rfl ?_
  refine G.iconst (v := (1 : Int32)) C dX10_swaps_14 (by decide) ?_
  refine G.iadd C dX10_swaps_15 ?_
  refine G.iload_n C 0 dX10_swaps_16 rfl rfl ?_
  obtain ⟨hg_6, h⟩ := gd_ex h
  obtain ⟨M_7, eM_7, h⟩ := ltv_ex h
  refine G.sI (j := (ix (x2 + (1 : Int32)))) C (sm_104 hE) hg_6 rfl dX10_swaps_17 eM_7 ?_
  cases h
  exact G.vret C hr dX10_swaps_18
def f_X10_swaps_67_104 (x2 : Int32) (M : Mm) : Option Mm := bb_X10_swaps_67_104_0 x2 M
theorem s_X10_swaps_67_104 {l : Launch} {E : Ev} {x2 : Int32} {M : Mm} {M' : Mm} (hE : Has shM (eH E)) (h : f_X10_swaps_67_104 x2 M = some M') : MetA l yX10_swaps cX10_swaps 4 none 1 E [.ref (eA E 67), .ref (eA E 104), .int x2] M none M' := by
  refine MetA.of (by decide +kernel) (Nat.le_of_ble_eq_true rfl) ?_
  intro p e s m below meth c C hr hnm
  exact G.sub [0, 1, 2] rfl (gb_X10_swaps_67_104_0 hE C hr  h)
def bb_X10_swaps_67_105_0 (x2 : Int32) (M : Mm) : Option Mm := gd (inb x2 64) (ltv (M.1 105 (ix x2)) fun x3_2 => gd (inb (x2 + (1 : Int32)) 64) (gd (inb x2 64) (ltv (wI M 105 (ix x2) (M.1 105 (ix (x2 + (1 : Int32))))) fun M_5 => gd (inb (x2 + (1 : Int32)) 64) (ltv (wI M_5 105 (ix (x2 + (1 : Int32))) x3_2) fun M_7 => some M_7))))
set_option maxHeartbeats 4000000 in
set_option maxRecDepth 100000 in
theorem gb_X10_swaps_67_105_0  {x2 : Int32} {M : Mm} {M' : Mm} (hE : Has shM (eH E)) (C : Cx RX10 cX10_swaps 4 p (rmD 1) s m args meth c E) (hr : meth.sig.returnType = none) (h : bb_X10_swaps_67_105_0 x2 M = some M') : G p l e (rmD 1) s m args below meth c E 4 0 0 (QR below args s E 0 0 none M') 0 [(0, .ref (eA E 67)), (1, .ref (eA E 105)), (2, .int x2)] [] M := by
  unfold bb_X10_swaps_67_105_0 at h
  refine G.aload_n C 1 dX10_swaps_0 rfl rfl ?_
  refine G.iload_n C 2 dX10_swaps_1 rfl rfl ?_
  obtain ⟨hg_1, h⟩ := gd_ex h
  refine G.aI (j := ix x2) C (sm_105 hE) hg_1 rfl dX10_swaps_2 ?_
  obtain ⟨x3_2, ex3_2, h⟩ := ltv_ex h
  refine G.istore_n (L' := [(3, .int x3_2), (0, .ref (eA E 67)), (1, .ref (eA E 105)), (2, .int x2)]) C dX10_swaps_3 rfl ex3_2 (by decide) rfl ?_
  refine G.aload_n C 2 dX10_swaps_4 rfl rfl ?_
  refine G.iload_n C 3 dX10_swaps_5 rfl rfl ?_
  refine G.aload_n C 2 dX10_swaps_6 rfl rfl ?_
  refine G.iload_n C 3 dX10_swaps_7 rfl rfl ?_
  refine G.iconst (v := (1 : Int32)) C dX10_swaps_8 (by decide) ?_
  refine G.iadd C dX10_swaps_9 ?_
  obtain ⟨hg_3, h⟩ := gd_ex h
  refine G.aI (j := ix (x2 + (1 : Int32))) C (sm_105 hE) hg_3 rfl dX10_swaps_10 ?_
  obtain ⟨hg_4, h⟩ := gd_ex h
  obtain ⟨M_5, eM_5, h⟩ := ltv_ex h
  refine G.sI (j := (ix x2)) C (sm_105 hE) hg_4 rfl dX10_swaps_11 eM_5 ?_
  refine G.aload_n C 2 dX10_swaps_12 rfl rfl ?_
  refine G.iload_n C 3 dX10_swaps_13 rfl rfl ?_
  refine G.iconst (v := (1 : Int32)) C dX10_swaps_14 (by decide) ?_
  refine G.iadd C dX10_swaps_15 ?_
  refine G.iload_n C 0 dX10_swaps_16 rfl rfl ?_
  obtain ⟨hg_6, h⟩ := gd_ex h
  obtain ⟨M_7, eM_7, h⟩ := ltv_ex h
  refine G.sI (j := (ix (x2 + (1 : Int32)))) C (sm_105 hE) hg_6 rfl dX10_swaps_17 eM_7 ?_
  cases h
  exact G.vret C hr dX10_swaps_18
def f_X10_swaps_67_105 (x2 : Int32) (M : Mm) : Option Mm := bb_X10_swaps_67_105_0 x2 M
theorem s_X10_swaps_67_105 {l : Launch} {E : Ev} {x2 : Int32} {M : Mm} {M' : Mm} (hE : Has shM (eH E)) (h : f_X10_swaps_67_105 x2 M = some M') : MetA l yX10_swaps cX10_swaps 4 none 1 E [.ref (eA E 67), .ref (eA E 105), .int x2] M none M' := by
  refine MetA.of (by decide +kernel) (Nat.le_of_ble_eq_true rfl) ?_
  intro p e s m below meth c C hr hnm
  exact G.sub [0, 1, 2] rfl (gb_X10_swaps_67_105_0 hE C hr  h)
def bb_X10_swaps_67_106_0 (x2 : Int32) (M : Mm) : Option Mm := gd (inb x2 64) (ltv (M.1 106 (ix x2)) fun x3_2 => gd (inb (x2 + (1 : Int32)) 64) (gd (inb x2 64) (ltv (wI M 106 (ix x2) (M.1 106 (ix (x2 + (1 : Int32))))) fun M_5 => gd (inb (x2 + (1 : Int32)) 64) (ltv (wI M_5 106 (ix (x2 + (1 : Int32))) x3_2) fun M_7 => some M_7))))
set_option maxHeartbeats 4000000 in
set_option maxRecDepth 100000 in
theorem gb_X10_swaps_67_106_0  {x2 : Int32} {M : Mm} {M' : Mm} (hE : Has shM (eH E)) (C : Cx RX10 cX10_swaps 4 p (rmD 1) s m args meth c E) (hr : meth.sig.returnType = none) (h : bb_X10_swaps_67_106_0 x2 M = some M') : G p l e (rmD 1) s m args below meth c E 4 0 0 (QR below args s E 0 0 none M') 0 [(0, .ref (eA E 67)), (1, .ref (eA E 106)), (2, .int x2)] [] M := by
  unfold bb_X10_swaps_67_106_0 at h
  refine G.aload_n C 1 dX10_swaps_0 rfl rfl ?_
  refine G.iload_n C 2 dX10_swaps_1 rfl rfl ?_
  obtain ⟨hg_1, h⟩ := gd_ex h
  refine G.aI (j := ix x2) C (sm_106 hE) hg_1 rfl dX10_swaps_2 ?_
  obtain ⟨x3_2, ex3_2, h⟩ := ltv_ex h
  refine G.istore_n (L' := [(3, .int x3_2), (0, .ref (eA E 67)), (1, .ref (eA E 106)), (2, .int x2)]) C dX10_swaps_3 rfl ex3_2 (by decide) rfl ?_
  refine G.aload_n C 2 dX10_swaps_4 rfl rfl ?_
  refine G.iload_n C 3 dX10_swaps_5 rfl rfl ?_
  refine G.aload_n C 2 dX10_swaps_6 rfl rfl ?_
  refine G.iload_n C 3 dX10_swaps_7 rfl rfl ?_
  refine G.iconst (v := (1 : Int32)) C dX10_swaps_8 (by decide) ?_
  refine G.iadd C dX10_swaps_9 ?_
  obtain ⟨hg_3, h⟩ := gd_ex h
  refine G.aI (j := ix (x2 + (1 : Int32))) C (sm_106 hE) hg_3 rfl dX10_swaps_10 ?_
  obtain ⟨hg_4, h⟩ := gd_ex h
  obtain ⟨M_5, eM_5, h⟩ := ltv_ex h
  refine G.sI (j := (ix x2)) C (sm_106 hE) hg_4 rfl dX10_swaps_11 eM_5 ?_
  refine G.aload_n C 2 dX10_swaps_12 rfl rfl ?_
  refine G.iload_n C 3 dX10_swaps_13 rfl rfl ?_
  refine G.iconst (v := (1 : Int32)) C dX10_swaps_14 (by decide) ?_
  refine G.iadd C dX10_swaps_15 ?_
  refine G.iload_n C 0 dX10_swaps_16 rfl rfl ?_
  obtain ⟨hg_6, h⟩ := gd_ex h
  obtain ⟨M_7, eM_7, h⟩ := ltv_ex h
  refine G.sI (j := (ix (x2 + (1 : Int32)))) C (sm_106 hE) hg_6 rfl dX10_swaps_17 eM_7 ?_
  cases h
  exact G.vret C hr dX10_swaps_18
def f_X10_swaps_67_106 (x2 : Int32) (M : Mm) : Option Mm := bb_X10_swaps_67_106_0 x2 M
theorem s_X10_swaps_67_106 {l : Launch} {E : Ev} {x2 : Int32} {M : Mm} {M' : Mm} (hE : Has shM (eH E)) (h : f_X10_swaps_67_106 x2 M = some M') : MetA l yX10_swaps cX10_swaps 4 none 1 E [.ref (eA E 67), .ref (eA E 106), .int x2] M none M' := by
  refine MetA.of (by decide +kernel) (Nat.le_of_ble_eq_true rfl) ?_
  intro p e s m below meth c C hr hnm
  exact G.sub [0, 1, 2] rfl (gb_X10_swaps_67_106_0 hE C hr  h)
def bb_X10_sorts_67_12 (k_2 : Int32 → Int32 → Mm → Option Mm) (k_12 : Int32 → Int32 → Int32 → Mm → Option Mm) (x1 : Int32) (x2 : Int32) (x3 : Int32) (M : Mm) : Option Mm := if (M.1 67 41) ≤ (x3 + (1 : Int32)) then (ltv (x2 + (1 : Int32)) fun x2_1 => k_2 x1 x2_1 M) else (bd (f_X10_isLater_67 x3 (x3 + (1 : Int32)) M) fun v_3 => if v_3 = 0 then (ltv (x3 + (1 : Int32)) fun x3_11 => k_12 x1 x2 x3_11 M) else (bd (f_X10_swaps_67_104 x3 M) fun M_5 => bd (f_X10_swaps_67_105 x3 M_5) fun M_7 => bd (f_X10_swaps_67_106 x3 M_7) fun M_9 => ltv (x3 + (1 : Int32)) fun x3_10 => k_12 x1 x2 x3_10 M_9))
set_option maxHeartbeats 4000000 in
set_option maxRecDepth 100000 in
theorem gb_X10_sorts_67_12  {k_2 : Int32 → Int32 → Mm → Option Mm} {k_12 : Int32 → Int32 → Int32 → Mm → Option Mm} {x1 : Int32} {x2 : Int32} {x3 : Int32} {M : Mm} {M' : Mm} (hE : Has shM (eH E)) (C : Cx RX10 cX10_sorts 4 p (rmD 2) s m args meth c E) (hr : meth.sig.returnType = none) (hk_2 : ∀ (x1 : Int32) (x2 : Int32) (M : Mm), k_2 x1 x2 M = some M' → G p l e (rmD 2) s m args below meth c E 4 0 0 (QR below args s E 0 0 none M') 2 [(0, .ref (eA E 67)), (1, .int x1), (2, .int x2)] [] M) (hk_12 : ∀ (x1 : Int32) (x2 : Int32) (x3 : Int32) (M : Mm), k_12 x1 x2 x3 M = some M' → G p l e (rmD 2) s m args below meth c E 4 0 0 (QR below args s E 0 0 none M') 12 [(0, .ref (eA E 67)), (1, .int x1), (2, .int x2), (3, .int x3)] [] M) (h : bb_X10_sorts_67_12 k_2 k_12 x1 x2 x3 M = some M') : G p l e (rmD 2) s m args below meth c E 4 0 0 (QR below args s E 0 0 none M') 12 [(0, .ref (eA E 67)), (1, .int x1), (2, .int x2), (3, .int x3)] [] M := by
  unfold bb_X10_sorts_67_12 at h
  refine G.iload_n C 3 dX10_sorts_12 rfl rfl ?_
  refine G.iconst (v := (1 : Int32)) C dX10_sorts_13 (by decide) ?_
  refine G.iadd C dX10_sorts_14 ?_
  refine G.aload_n C 0 dX10_sorts_15 rfl rfl ?_
  refine G.getI (k := 41) C k_X10 (sm_67 hE) rfl (by decide) tg_1472 dX10_sorts_16 ?_
  refine G.icmp_ge (tgt := 69) C dX10_sorts_19 (by decide) (fun hc => ?_) (fun hc => ?_)
  · have h := it_t h hc
    obtain ⟨x2_1, ex2_1, h⟩ := ltv_ex h
    refine G.iinc (L' := [(2, .int x2_1), (0, .ref (eA E 67)), (1, .int x1), (3, .int x3)]) C 2 dX10_sorts_69 rfl (ex2_1.trans rfl) (by decide) rfl ?_
    refine G.goto (tgt := 2) C dX10_sorts_72 (by decide) ?_
    exact G.sub [1, 2, 0] rfl (hk_2 _ _ _  h)
  · have h := it_f h hc
    refine G.aload_n C 0 dX10_sorts_22 rfl rfl ?_
    refine G.iload_n C 3 dX10_sorts_23 rfl rfl ?_
    refine G.iload_n C 3 dX10_sorts_24 rfl rfl ?_
    refine G.iconst (v := (1 : Int32)) C dX10_sorts_25 (by decide) ?_
    refine G.iadd C dX10_sorts_26 ?_
    obtain ⟨v_3, hv_2, h⟩ := bd_ex h
    refine G.callV (rest := []) C (s_X10_isLater_67 hE  hv_2) ⟨tg_1860, tg_103, ok_X10_isLater, Nat.le_of_ble_eq_true rfl, Nat.le_of_ble_eq_true rfl⟩ tg_1857 tg_1859 tg_78 (sm_67 hE) rfl rfl (Nat.le_of_ble_eq_true rfl) dX10_sorts_27 ⟨Nat.le_refl 0, Nat.le_refl 0⟩ ?_
    refine G.if_ne (tgt := 36) C dX10_sorts_30 (by decide) (fun hc => ?_) (fun hc => ?_)
    · have h := it_f h hc
      refine G.aload_n C 0 dX10_sorts_36 rfl rfl ?_
      refine G.aload_n C 0 dX10_sorts_37 rfl rfl ?_
      refine G.getR (k := 38) C k_X10 (sm_67 hE) rfl (by decide) tg_1469 dX10_sorts_38 ?_
      refine G.iload_n C 3 dX10_sorts_41 rfl rfl ?_
      obtain ⟨M_5, hv_4, h⟩ := bd_ex h
      refine G.callV (rest := []) C (s_X10_swaps_67_104 hE  hv_4) ⟨tg_1864, tg_103, ok_X10_swaps, Nat.le_of_ble_eq_true rfl, Nat.le_of_ble_eq_true rfl⟩ tg_1861 tg_1863 tg_79 (sm_67 hE) rfl rfl (Nat.le_of_ble_eq_true rfl) dX10_sorts_42 ⟨Nat.le_refl 0, Nat.le_refl 0⟩ ?_
      refine G.aload_n C 0 dX10_sorts_45 rfl rfl ?_
      refine G.aload_n C 0 dX10_sorts_46 rfl rfl ?_
      refine G.getR (k := 39) C k_X10 (sm_67 hE) rfl (by decide) tg_1470 dX10_sorts_47 ?_
      refine G.iload_n C 3 dX10_sorts_50 rfl rfl ?_
      obtain ⟨M_7, hv_6, h⟩ := bd_ex h
      refine G.callV (rest := []) C (s_X10_swaps_67_105 hE  hv_6) ⟨tg_1864, tg_103, ok_X10_swaps, Nat.le_of_ble_eq_true rfl, Nat.le_of_ble_eq_true rfl⟩ tg_1861 tg_1863 tg_79 (sm_67 hE) rfl rfl (Nat.le_of_ble_eq_true rfl) dX10_sorts_51 ⟨Nat.le_refl 0, Nat.le_refl 0⟩ ?_
      refine G.aload_n C 0 dX10_sorts_54 rfl rfl ?_
      refine G.aload_n C 0 dX10_sorts_55 rfl rfl ?_
      refine G.getR (k := 40) C k_X10 (sm_67 hE) rfl (by decide) tg_1471 dX10_sorts_56 ?_
      refine G.iload_n C 3 dX10_sorts_59 rfl rfl ?_
      obtain ⟨M_9, hv_8, h⟩ := bd_ex h
      refine G.callV (rest := []) C (s_X10_swaps_67_106 hE  hv_8) ⟨tg_1864, tg_103, ok_X10_swaps, Nat.le_of_ble_eq_true rfl, Nat.le_of_ble_eq_true rfl⟩ tg_1861 tg_1863 tg_79 (sm_67 hE) rfl rfl (Nat.le_of_ble_eq_true rfl) dX10_sorts_60 ⟨Nat.le_refl 0, Nat.le_refl 0⟩ ?_
      obtain ⟨x3_10, ex3_10, h⟩ := ltv_ex h
      refine G.iinc (L' := [(3, .int x3_10), (0, .ref (eA E 67)), (1, .int x1), (2, .int x2)]) C 3 dX10_sorts_63 rfl (ex3_10.trans rfl) (by decide) rfl ?_
      refine G.goto (tgt := 12) C dX10_sorts_66 (by decide) ?_
      exact G.sub [1, 2, 3, 0] rfl (hk_12 _ _ _ _  h)
    · have h := it_t h hc
      refine G.goto (tgt := 63) C dX10_sorts_33 (by decide) ?_
      obtain ⟨x3_11, ex3_11, h⟩ := ltv_ex h
      refine G.iinc (L' := [(3, .int x3_11), (0, .ref (eA E 67)), (1, .int x1), (2, .int x2)]) C 3 dX10_sorts_63 rfl (ex3_11.trans rfl) (by decide) rfl ?_
      refine G.goto (tgt := 12) C dX10_sorts_66 (by decide) ?_
      exact G.sub [1, 2, 3, 0] rfl (hk_12 _ _ _ _  h)
def b_X10_sorts_67_12 (k_2 : Int32 → Int32 → Mm → Option Mm) : Nat → Int32 → Int32 → Int32 → Mm → Option Mm
  | 0, _, _, _, _ => none
  | n + 1, x1, x2, x3, M => bb_X10_sorts_67_12 k_2 (b_X10_sorts_67_12 k_2 n) x1 x2 x3 M
set_option maxHeartbeats 4000000 in
theorem g_X10_sorts_67_12  {k_2 : Int32 → Int32 → Mm → Option Mm} {n : Nat} {x1 : Int32} {x2 : Int32} {x3 : Int32} {M : Mm} {M' : Mm} (hE : Has shM (eH E)) (C : Cx RX10 cX10_sorts 4 p (rmD 2) s m args meth c E) (hr : meth.sig.returnType = none) (hk_2 : ∀ (x1 : Int32) (x2 : Int32) (M : Mm), k_2 x1 x2 M = some M' → G p l e (rmD 2) s m args below meth c E 4 0 0 (QR below args s E 0 0 none M') 2 [(0, .ref (eA E 67)), (1, .int x1), (2, .int x2)] [] M) (h : b_X10_sorts_67_12 k_2 n x1 x2 x3 M = some M') : G p l e (rmD 2) s m args below meth c E 4 0 0 (QR below args s E 0 0 none M') 12 [(0, .ref (eA E 67)), (1, .int x1), (2, .int x2), (3, .int x3)] [] M := by
  induction n generalizing x1 x2 x3 M with
  | zero => cases h
  | succ n ih => exact gb_X10_sorts_67_12 hE C hr hk_2 (fun _ _ _ _ => ih)  h
def bb_X10_sorts_67_2 (k_2 : Int32 → Int32 → Mm → Option Mm) (x1 : Int32) (x2 : Int32) (M : Mm) : Option Mm := if (M.1 67 41) ≤ x2 then (some M) else (b_X10_sorts_67_12 k_2 FU x1 x2 x1 M)
set_option maxHeartbeats 4000000 in
set_option maxRecDepth 100000 in
theorem gb_X10_sorts_67_2  {k_2 : Int32 → Int32 → Mm → Option Mm} {x1 : Int32} {x2 : Int32} {M : Mm} {M' : Mm} (hE : Has shM (eH E)) (C : Cx RX10 cX10_sorts 4 p (rmD 2) s m args meth c E) (hr : meth.sig.returnType = none) (hk_2 : ∀ (x1 : Int32) (x2 : Int32) (M : Mm), k_2 x1 x2 M = some M' → G p l e (rmD 2) s m args below meth c E 4 0 0 (QR below args s E 0 0 none M') 2 [(0, .ref (eA E 67)), (1, .int x1), (2, .int x2)] [] M) (h : bb_X10_sorts_67_2 k_2 x1 x2 M = some M') : G p l e (rmD 2) s m args below meth c E 4 0 0 (QR below args s E 0 0 none M') 2 [(0, .ref (eA E 67)), (1, .int x1), (2, .int x2)] [] M := by
  unfold bb_X10_sorts_67_2 at h
  refine G.iload_n C 2 dX10_sorts_2 rfl rfl ?_
  refine G.aload_n C 0 dX10_sorts_3 rfl rfl ?_
  refine G.getI (k := 41) C k_X10 (sm_67 hE) rfl (by decide) tg_1472 dX10_sorts_4 ?_
  refine G.icmp_ge (tgt := 75) C dX10_sorts_7 (by decide) (fun hc => ?_) (fun hc => ?_)
  · have h := it_t h hc
    cases h
    exact G.vret C hr dX10_sorts_75
  · have h := it_f h hc
    refine G.iload_n C 1 dX10_sorts_10 rfl rfl ?_
    refine G.istore_n (L' := [(3, .int x1), (0, .ref (eA E 67)), (1, .int x1), (2, .int x2)]) C dX10_sorts_11 rfl rfl (by decide) rfl ?_
    exact G.sub [1, 2, 3, 0] rfl (g_X10_sorts_67_12 hE C hr hk_2  h)
def b_X10_sorts_67_2 : Nat → Int32 → Int32 → Mm → Option Mm
  | 0, _, _, _ => none
  | n + 1, x1, x2, M => bb_X10_sorts_67_2 (b_X10_sorts_67_2 n) x1 x2 M
set_option maxHeartbeats 4000000 in
theorem g_X10_sorts_67_2  {n : Nat} {x1 : Int32} {x2 : Int32} {M : Mm} {M' : Mm} (hE : Has shM (eH E)) (C : Cx RX10 cX10_sorts 4 p (rmD 2) s m args meth c E) (hr : meth.sig.returnType = none) (h : b_X10_sorts_67_2 n x1 x2 M = some M') : G p l e (rmD 2) s m args below meth c E 4 0 0 (QR below args s E 0 0 none M') 2 [(0, .ref (eA E 67)), (1, .int x1), (2, .int x2)] [] M := by
  induction n generalizing x1 x2 M with
  | zero => cases h
  | succ n ih => exact gb_X10_sorts_67_2 hE C hr (fun _ _ _ => ih)  h
def bb_X10_sorts_67_0 (x1 : Int32) (M : Mm) : Option Mm := b_X10_sorts_67_2 FU x1 x1 M
set_option maxHeartbeats 4000000 in
set_option maxRecDepth 100000 in
theorem gb_X10_sorts_67_0  {x1 : Int32} {M : Mm} {M' : Mm} (hE : Has shM (eH E)) (C : Cx RX10 cX10_sorts 4 p (rmD 2) s m args meth c E) (hr : meth.sig.returnType = none) (h : bb_X10_sorts_67_0 x1 M = some M') : G p l e (rmD 2) s m args below meth c E 4 0 0 (QR below args s E 0 0 none M') 0 [(0, .ref (eA E 67)), (1, .int x1)] [] M := by
  unfold bb_X10_sorts_67_0 at h
  refine G.iload_n C 1 dX10_sorts_0 rfl rfl ?_
  refine G.istore_n (L' := [(2, .int x1), (0, .ref (eA E 67)), (1, .int x1)]) C dX10_sorts_1 rfl rfl (by decide) rfl ?_
  exact G.sub [1, 2, 0] rfl (g_X10_sorts_67_2 hE C hr  h)
def f_X10_sorts_67 (x1 : Int32) (M : Mm) : Option Mm := bb_X10_sorts_67_0 x1 M
theorem s_X10_sorts_67 {l : Launch} {E : Ev} {x1 : Int32} {M : Mm} {M' : Mm} (hE : Has shM (eH E)) (h : f_X10_sorts_67 x1 M = some M') : MetA l yX10_sorts cX10_sorts 4 none 2 E [.ref (eA E 67), .int x1] M none M' := by
  refine MetA.of (by decide +kernel) (Nat.le_of_ble_eq_true rfl) ?_
  intro p e s m below meth c C hr hnm
  exact G.sub [0, 1] rfl (gb_X10_sorts_67_0 hE C hr  h)
def bb_X10_puts_67_0 (x1 : Int32) (x2 : Int32) (x3 : Int32) (M : Mm) : Option Mm := gd (inb (M.1 67 41) 64) (ltv (wI M 104 (ix (M.1 67 41)) x2) fun M_2 => gd (inb (M_2.1 67 41) 64) (ltv (wI M_2 105 (ix (M_2.1 67 41)) x3) fun M_4 => gd (inb (M_4.1 67 41) 64) (ltv (wI M_4 106 (ix (M_4.1 67 41)) x1) fun M_6 => ltv (wI M_6 67 41 ((M_6.1 67 41) + (1 : Int32))) fun M_7 => some M_7)))
set_option maxHeartbeats 4000000 in
set_option maxRecDepth 100000 in
theorem gb_X10_puts_67_0  {x1 : Int32} {x2 : Int32} {x3 : Int32} {M : Mm} {M' : Mm} (hE : Has shM (eH E)) (C : Cx RX10 cX10_puts 4 p (rmD 1) s m args meth c E) (hr : meth.sig.returnType = none) (h : bb_X10_puts_67_0 x1 x2 x3 M = some M') : G p l e (rmD 1) s m args below meth c E 4 0 0 (QR below args s E 0 0 none M') 0 [(0, .ref (eA E 67)), (1, .int x1), (2, .int x2), (3, .int x3)] [] M := by
  unfold bb_X10_puts_67_0 at h
  refine G.aload_n C 0 dX10_puts_0 rfl rfl ?_
  refine G.getR (k := 38) C k_X10 (sm_67 hE) rfl (by decide) tg_1469 dX10_puts_1 ?_
  refine G.aload_n C 0 dX10_puts_4 rfl rfl ?_
  refine G.getI (k := 41) C k_X10 (sm_67 hE) rfl (by decide) tg_1472 dX10_puts_5 ?_
  refine G.iload_n C 2 dX10_puts_8 rfl rfl ?_
  obtain ⟨hg_1, h⟩ := gd_ex h
  obtain ⟨M_2, eM_2, h⟩ := ltv_ex h
  refine G.sI (j := (ix (M.1 67 41))) C (sm_104 hE) hg_1 rfl dX10_puts_9 eM_2 ?_
  refine G.aload_n C 0 dX10_puts_10 rfl rfl ?_
  refine G.getR (k := 39) C k_X10 (sm_67 hE) rfl (by decide) tg_1470 dX10_puts_11 ?_
  refine G.aload_n C 0 dX10_puts_14 rfl rfl ?_
  refine G.getI (k := 41) C k_X10 (sm_67 hE) rfl (by decide) tg_1472 dX10_puts_15 ?_
  refine G.iload_n C 3 dX10_puts_18 rfl rfl ?_
  obtain ⟨hg_3, h⟩ := gd_ex h
  obtain ⟨M_4, eM_4, h⟩ := ltv_ex h
  refine G.sI (j := (ix (M_2.1 67 41))) C (sm_105 hE) hg_3 rfl dX10_puts_19 eM_4 ?_
  refine G.aload_n C 0 dX10_puts_20 rfl rfl ?_
  refine G.getR (k := 40) C k_X10 (sm_67 hE) rfl (by decide) tg_1471 dX10_puts_21 ?_
  refine G.aload_n C 0 dX10_puts_24 rfl rfl ?_
  refine G.getI (k := 41) C k_X10 (sm_67 hE) rfl (by decide) tg_1472 dX10_puts_25 ?_
  refine G.iload_n C 1 dX10_puts_28 rfl rfl ?_
  obtain ⟨hg_5, h⟩ := gd_ex h
  obtain ⟨M_6, eM_6, h⟩ := ltv_ex h
  refine G.sI (j := (ix (M_4.1 67 41))) C (sm_106 hE) hg_5 rfl dX10_puts_29 eM_6 ?_
  refine G.aload_n C 0 dX10_puts_30 rfl rfl ?_
  refine G.dup C dX10_puts_31 rfl ?_
  refine G.getI (k := 41) C k_X10 (sm_67 hE) rfl (by decide) tg_1472 dX10_puts_32 ?_
  refine G.iconst (v := (1 : Int32)) C dX10_puts_35 (by decide) ?_
  refine G.iadd C dX10_puts_36 ?_
  obtain ⟨M_7, eM_7, h⟩ := ltv_ex h
  refine G.putI (k := 41) C k_X10 (sm_67 hE) rfl (by decide) tg_1472 rfl rfl dX10_puts_37 eM_7 ?_
  cases h
  exact G.vret C hr dX10_puts_40
def f_X10_puts_67 (x1 : Int32) (x2 : Int32) (x3 : Int32) (M : Mm) : Option Mm := bb_X10_puts_67_0 x1 x2 x3 M
theorem s_X10_puts_67 {l : Launch} {E : Ev} {x1 : Int32} {x2 : Int32} {x3 : Int32} {M : Mm} {M' : Mm} (hE : Has shM (eH E)) (h : f_X10_puts_67 x1 x2 x3 M = some M') : MetA l yX10_puts cX10_puts 4 none 1 E [.ref (eA E 67), .int x1, .int x2, .int x3] M none M' := by
  refine MetA.of (by decide +kernel) (Nat.le_of_ble_eq_true rfl) ?_
  intro p e s m below meth c C hr hnm
  exact G.sub [0, 1, 2, 3] rfl (gb_X10_puts_67_0 hE C hr  h)
def bb_X10_findOrder_67_118 (k_118 : Int32 → Int32 → Int32 → Int32 → Mm → Option (Int32 × Mm)) (x3 : Int32) (x4 : Int32) (x5 : Int32) (x6 : Int32) (M : Mm) : Option (Int32 × Mm) := if (32 : Int32) ≤ x6 then (bd (f_X10_sorts_67 x4 M) fun M_27 => if (11 : Int32) < (M_27.1 67 41) then (some ((0 : Int32), M_27)) else (some ((1 : Int32), M_27))) else (if ((shrI x5 x6) &&& (1 : Int32)) = (1 : Int32) then (gd (inb x6 32) (bd (f_X10_ones (M.2 99 (ix x6))) fun v_31 => bd (f_X10_puts_67 ((100 : Int32) + x6) v_31 x3 M) fun M_33 => ltv (x6 + (1 : Int32)) fun x6_34 => k_118 x3 x4 x5 x6_34 M_33)) else (ltv (x6 + (1 : Int32)) fun x6_28 => k_118 x3 x4 x5 x6_28 M))
set_option maxHeartbeats 4000000 in
set_option maxRecDepth 100000 in
theorem gb_X10_findOrder_67_118  {k_118 : Int32 → Int32 → Int32 → Int32 → Mm → Option (Int32 × Mm)} {x3 : Int32} {x4 : Int32} {x5 : Int32} {x6 : Int32} {M : Mm} {v : Int32} {M' : Mm} (hE : Has shM (eH E)) (C : Cx RX10 cX10_findOrder 7 p (rmD 44) s m args meth c E) (hr : meth.sig.returnType = (some .boolean)) (hk_118 : ∀ (x3 : Int32) (x4 : Int32) (x5 : Int32) (x6 : Int32) (M : Mm), k_118 x3 x4 x5 x6 M = some (v, M') → G p l e (rmD 44) s m args below meth c E 7 0 0 (QR below args s E 0 0 (some (.int v)) M') 118 [(0, .ref (eA E 67)), (3, .int x3), (4, .int x4), (5, .int x5), (6, .int x6)] [] M) (h : bb_X10_findOrder_67_118 k_118 x3 x4 x5 x6 M = some (v, M')) : G p l e (rmD 44) s m args below meth c E 7 0 0 (QR below args s E 0 0 (some (.int v)) M') 118 [(0, .ref (eA E 67)), (3, .int x3), (4, .int x4), (5, .int x5), (6, .int x6)] [] M := by
  unfold bb_X10_findOrder_67_118 at h
  refine G.iload C 4 dX10_findOrder_118 rfl ?_
  refine G.bipush (v := (32 : Int32)) C dX10_findOrder_120 (by decide) ?_
  refine G.icmp_ge (tgt := 162) C dX10_findOrder_122 (by decide) (fun hc => ?_) (fun hc => ?_)
  · have h := it_t h hc
    refine G.aload_n C 0 dX10_findOrder_162 rfl rfl ?_
    refine G.iload C 2 dX10_findOrder_163 rfl ?_
    obtain ⟨M_27, hv_26, h⟩ := bd_ex h
    refine G.callV (rest := []) C (s_X10_sorts_67 hE  hv_26) ⟨tg_1856, tg_103, ok_X10_sorts, Nat.le_of_ble_eq_true rfl, Nat.le_of_ble_eq_true rfl⟩ tg_1853 tg_1855 tg_77 (sm_67 hE) rfl rfl (Nat.le_of_ble_eq_true rfl) dX10_findOrder_165 ⟨Nat.le_refl 0, Nat.le_refl 0⟩ ?_
    refine G.aload_n C 0 dX10_findOrder_168 rfl rfl ?_
    refine G.getI (k := 41) C k_X10 (sm_67 hE) rfl (by decide) tg_1472 dX10_findOrder_169 ?_
    refine G.bipush (v := (11 : Int32)) C dX10_findOrder_172 (by decide) ?_
    refine G.icmp_gt (tgt := 181) C dX10_findOrder_174 (by decide) (fun hc => ?_) (fun hc => ?_)
    · have h := it_t h hc
      refine G.iconst (v := (0 : Int32)) C dX10_findOrder_181 (by decide) ?_
      cases h
      exact G.zret C hr rfl dX10_findOrder_182
    · have h := it_f h hc
      refine G.iconst (v := (1 : Int32)) C dX10_findOrder_177 (by decide) ?_
      refine G.goto (tgt := 182) C dX10_findOrder_178 (by decide) ?_
      cases h
      exact G.zret C hr rfl dX10_findOrder_182
  · have h := it_f h hc
    refine G.iload C 3 dX10_findOrder_125 rfl ?_
    refine G.iload C 4 dX10_findOrder_127 rfl ?_
    refine G.isr C dX10_findOrder_129 ?_
    refine G.iconst (v := (1 : Int32)) C dX10_findOrder_130 (by decide) ?_
    refine G.iand C dX10_findOrder_131 ?_
    refine G.iconst (v := (1 : Int32)) C dX10_findOrder_132 (by decide) ?_
    refine G.icmp_ne (tgt := 156) C dX10_findOrder_133 (by decide) (fun hc => ?_) (fun hc => ?_)
    · have h := it_f h hc
      obtain ⟨x6_28, ex6_28, h⟩ := ltv_ex h
      refine G.iinc (L' := [(6, .int x6_28), (0, .ref (eA E 67)), (3, .int x3), (4, .int x4), (5, .int x5)]) C 4 dX10_findOrder_156 rfl (ex6_28.trans rfl) (by decide) rfl ?_
      refine G.goto (tgt := 118) C dX10_findOrder_159 (by decide) ?_
      exact G.sub [1, 2, 3, 4, 0] rfl (hk_118 _ _ _ _ _  h)
    · have h := it_t h hc
      refine G.aload_n C 0 dX10_findOrder_136 rfl rfl ?_
      refine G.bipush (v := (100 : Int32)) C dX10_findOrder_137 (by decide) ?_
      refine G.iload C 4 dX10_findOrder_139 rfl ?_
      refine G.iadd C dX10_findOrder_141 ?_
      refine G.aload_n C 0 dX10_findOrder_142 rfl rfl ?_
      refine G.getR (k := 32) C k_X10 (sm_67 hE) rfl (by decide) tg_1463 dX10_findOrder_143 ?_
      refine G.iload C 4 dX10_findOrder_146 rfl ?_
      obtain ⟨hg_29, h⟩ := gd_ex h
      refine G.aJ (j := ix x6) C (sm_99 hE) hg_29 rfl dX10_findOrder_148 ?_
      obtain ⟨v_31, hv_30, h⟩ := bd_ex h
      refine G.callS (rest := [.int ((100 : Int32) + x6), .ref (eA E 67)]) C (s_X10_ones  hv_30) ⟨tg_1706, tg_103, ok_X10_ones, Nat.le_of_ble_eq_true rfl, Nat.le_of_ble_eq_true rfl⟩ tg_1704 tg_1705 rfl (Nat.le_of_ble_eq_true rfl) dX10_findOrder_149 ⟨Nat.le_refl 0, Nat.le_refl 0⟩ ?_
      refine G.iload_n C 1 dX10_findOrder_152 rfl rfl ?_
      obtain ⟨M_33, hv_32, h⟩ := bd_ex h
      refine G.callV (rest := []) C (s_X10_puts_67 hE  hv_32) ⟨tg_1852, tg_103, ok_X10_puts, Nat.le_of_ble_eq_true rfl, Nat.le_of_ble_eq_true rfl⟩ tg_1849 tg_1851 tg_76 (sm_67 hE) rfl rfl (Nat.le_of_ble_eq_true rfl) dX10_findOrder_153 ⟨Nat.le_refl 0, Nat.le_refl 0⟩ ?_
      obtain ⟨x6_34, ex6_34, h⟩ := ltv_ex h
      refine G.iinc (L' := [(6, .int x6_34), (0, .ref (eA E 67)), (3, .int x3), (4, .int x4), (5, .int x5)]) C 4 dX10_findOrder_156 rfl (ex6_34.trans rfl) (by decide) rfl ?_
      refine G.goto (tgt := 118) C dX10_findOrder_159 (by decide) ?_
      exact G.sub [1, 2, 3, 4, 0] rfl (hk_118 _ _ _ _ _  h)
def b_X10_findOrder_67_118 : Nat → Int32 → Int32 → Int32 → Int32 → Mm → Option (Int32 × Mm)
  | 0, _, _, _, _, _ => none
  | n + 1, x3, x4, x5, x6, M => bb_X10_findOrder_67_118 (b_X10_findOrder_67_118 n) x3 x4 x5 x6 M
set_option maxHeartbeats 4000000 in
theorem g_X10_findOrder_67_118  {n : Nat} {x3 : Int32} {x4 : Int32} {x5 : Int32} {x6 : Int32} {M : Mm} {v : Int32} {M' : Mm} (hE : Has shM (eH E)) (C : Cx RX10 cX10_findOrder 7 p (rmD 44) s m args meth c E) (hr : meth.sig.returnType = (some .boolean)) (h : b_X10_findOrder_67_118 n x3 x4 x5 x6 M = some (v, M')) : G p l e (rmD 44) s m args below meth c E 7 0 0 (QR below args s E 0 0 (some (.int v)) M') 118 [(0, .ref (eA E 67)), (3, .int x3), (4, .int x4), (5, .int x5), (6, .int x6)] [] M := by
  induction n generalizing x3 x4 x5 x6 M with
  | zero => cases h
  | succ n ih => exact gb_X10_findOrder_67_118 hE C hr (fun _ _ _ _ _ => ih)  h
def bb_X10_findOrder_67_8 (k_8 : Int32 → Int32 → Int32 → Int32 → Mm → Option (Int32 × Mm)) (x1 : Int32) (x2 : Int32) (x3 : Int32) (x4 : Int32) (M : Mm) : Option (Int32 × Mm) := if (M.1 67 19) ≤ x4 then (bd (f_X10_sorts_67 (0 : Int32) M) fun M_3 => ltv (M_3.1 67 41) fun x4_4 => gd (inb x1 10) (bd (f_X10_findTakes_67 (M_3.2 72 (ix x1)) M_3) fun M_7 => gd (inb x1 10) (bd (f_X10_reached (M_7.2 72 (ix x1))) fun v_10 => bd2 (f_X10_linesFor_67 v_10 M_7) fun v_13 M_12 => b_X10_findOrder_67_118 FU x3 x4_4 v_13 (0 : Int32) M_12))) else (gd (inb x4 16) (if (M.1 92 (ix x4)) = x1 then (gd (inb x4 16) (bd (f_X10_ones (M.2 91 (ix x4))) fun v_17 => ltv (x2 + (v_17 / (4 : Int32))) fun x6_18 => if x6_18 ≤ (15 : Int32) then (bd (f_X10_puts_67 x4 v_17 x6_18 M) fun M_20 => ltv (x4 + (1 : Int32)) fun x4_21 => k_8 x1 x2 x3 x4_21 M_20) else (bd (f_X10_puts_67 x4 v_17 (15 : Int32) M) fun M_23 => ltv (x4 + (1 : Int32)) fun x4_24 => k_8 x1 x2 x3 x4_24 M_23))) else (ltv (x4 + (1 : Int32)) fun x4_25 => k_8 x1 x2 x3 x4_25 M)))
set_option maxHeartbeats 4000000 in
set_option maxRecDepth 100000 in
theorem gb_X10_findOrder_67_8  {k_8 : Int32 → Int32 → Int32 → Int32 → Mm → Option (Int32 × Mm)} {x1 : Int32} {x2 : Int32} {x3 : Int32} {x4 : Int32} {M : Mm} {v : Int32} {M' : Mm} (hE : Has shM (eH E)) (C : Cx RX10 cX10_findOrder 7 p (rmD 44) s m args meth c E) (hr : meth.sig.returnType = (some .boolean)) (hk_8 : ∀ (x1 : Int32) (x2 : Int32) (x3 : Int32) (x4 : Int32) (M : Mm), k_8 x1 x2 x3 x4 M = some (v, M') → G p l e (rmD 44) s m args below meth c E 7 0 0 (QR below args s E 0 0 (some (.int v)) M') 8 [(0, .ref (eA E 67)), (1, .int x1), (2, .int x2), (3, .int x3), (4, .int x4)] [] M) (h : bb_X10_findOrder_67_8 k_8 x1 x2 x3 x4 M = some (v, M')) : G p l e (rmD 44) s m args below meth c E 7 0 0 (QR below args s E 0 0 (some (.int v)) M') 8 [(0, .ref (eA E 67)), (1, .int x1), (2, .int x2), (3, .int x3), (4, .int x4)] [] M := by
  unfold bb_X10_findOrder_67_8 at h
  refine G.iload C 4 dX10_findOrder_8 rfl ?_
  refine G.aload_n C 0 dX10_findOrder_10 rfl rfl ?_
  refine G.getI (k := 19) C k_X10 (sm_67 hE) rfl (by decide) tg_1450 dX10_findOrder_11 ?_
  refine G.icmp_ge (tgt := 79) C dX10_findOrder_14 (by decide) (fun hc => ?_) (fun hc => ?_)
  · have h := it_t h hc
    refine G.aload_n C 0 dX10_findOrder_79 rfl rfl ?_
    refine G.iconst (v := (0 : Int32)) C dX10_findOrder_80 (by decide) ?_
    obtain ⟨M_3, hv_2, h⟩ := bd_ex h
    refine G.callV (rest := []) C (s_X10_sorts_67 hE  hv_2) ⟨tg_1856, tg_103, ok_X10_sorts, Nat.le_of_ble_eq_true rfl, Nat.le_of_ble_eq_true rfl⟩ tg_1853 tg_1855 tg_77 (sm_67 hE) rfl rfl (Nat.le_of_ble_eq_true rfl) dX10_findOrder_81 ⟨Nat.le_refl 0, Nat.le_refl 0⟩ ?_
    refine G.aload_n C 0 dX10_findOrder_84 rfl rfl ?_
    refine G.getI (k := 41) C k_X10 (sm_67 hE) rfl (by decide) tg_1472 dX10_findOrder_85 ?_
    obtain ⟨x4_4, ex4_4, h⟩ := ltv_ex h
    refine G.istore (L' := [(4, .int x4_4), (0, .ref (eA E 67)), (1, .int x1), (2, .int x2), (3, .int x3)]) C dX10_findOrder_88 ex4_4 (by decide) rfl ?_
    refine G.aload_n C 1 dX10_findOrder_90 rfl rfl ?_
    refine G.aload_n C 1 dX10_findOrder_91 rfl rfl ?_
    refine G.getR (k := 12) C k_X10 (sm_67 hE) rfl (by decide) tg_1443 dX10_findOrder_92 ?_
    refine G.iload_n C 2 dX10_findOrder_95 rfl rfl ?_
    obtain ⟨hg_5, h⟩ := gd_ex h
    refine G.aJ (j := ix x1) C (sm_72 hE) hg_5 rfl dX10_findOrder_96 ?_
    obtain ⟨M_7, hv_6, h⟩ := bd_ex h
    refine G.callV (rest := []) C (s_X10_findTakes_67 hE  hv_6) ⟨tg_1762, tg_103, ok_X10_findTakes, Nat.le_of_ble_eq_true rfl, Nat.le_of_ble_eq_true rfl⟩ tg_1759 tg_1761 tg_67 (sm_67 hE) rfl rfl (Nat.le_of_ble_eq_true rfl) dX10_findOrder_97 ⟨Nat.le_refl 0, Nat.le_refl 0⟩ ?_
    refine G.aload_n C 1 dX10_findOrder_100 rfl rfl ?_
    refine G.aload_n C 1 dX10_findOrder_101 rfl rfl ?_
    refine G.getR (k := 12) C k_X10 (sm_67 hE) rfl (by decide) tg_1443 dX10_findOrder_102 ?_
    refine G.iload_n C 2 dX10_findOrder_105 rfl rfl ?_
    obtain ⟨hg_8, h⟩ := gd_ex h
    refine G.aJ (j := ix x1) C (sm_72 hE) hg_8 rfl dX10_findOrder_106 ?_
    obtain ⟨v_10, hv_9, h⟩ := bd_ex h
    refine G.callS (rest := [.ref (eA E 67)]) C (s_X10_reached  hv_9) ⟨tg_1677, tg_103, ok_X10_reached, Nat.le_of_ble_eq_true rfl, Nat.le_of_ble_eq_true rfl⟩ tg_1675 tg_1676 rfl (Nat.le_of_ble_eq_true rfl) dX10_findOrder_107 ⟨Nat.le_refl 0, Nat.le_refl 0⟩ ?_
    obtain ⟨v_13, M_12, hv_11, h⟩ := bd2_ex h
    refine G.callV (rest := []) C (s_X10_linesFor_67 hE  hv_11) ⟨tg_1781, tg_103, ok_X10_linesFor, Nat.le_of_ble_eq_true rfl, Nat.le_of_ble_eq_true rfl⟩ tg_1778 tg_1780 tg_70 (sm_67 hE) rfl rfl (Nat.le_of_ble_eq_true rfl) dX10_findOrder_110 ⟨Nat.le_refl 0, Nat.le_refl 0⟩ ?_
    refine G.istore (L' := [(5, .int v_13), (4, .int x4_4), (0, .ref (eA E 67)), (1, .int x1), (2, .int x2), (3, .int x3)]) C dX10_findOrder_113 rfl (by decide) rfl ?_
    refine G.iconst (v := (0 : Int32)) C dX10_findOrder_115 (by decide) ?_
    refine G.istore (L' := [(6, .int (0 : Int32)), (5, .int v_13), (4, .int x4_4), (0, .ref (eA E 67)), (1, .int x1), (2, .int x2), (3, .int x3)]) C dX10_findOrder_116 rfl (by decide) rfl ?_
    exact G.sub [3, 6, 2, 1, 0] rfl (g_X10_findOrder_67_118 hE C hr  h)
  · have h := it_f h hc
    refine G.aload_n C 0 dX10_findOrder_17 rfl rfl ?_
    refine G.getR (k := 21) C k_X10 (sm_67 hE) rfl (by decide) tg_1452 dX10_findOrder_18 ?_
    refine G.iload C 4 dX10_findOrder_21 rfl ?_
    obtain ⟨hg_14, h⟩ := gd_ex h
    refine G.aI (j := ix x4) C (sm_92 hE) hg_14 rfl dX10_findOrder_23 ?_
    refine G.iload_n C 1 dX10_findOrder_24 rfl rfl ?_
    refine G.icmp_eq (tgt := 31) C dX10_findOrder_25 (by decide) (fun hc => ?_) (fun hc => ?_)
    · have h := it_t h hc
      refine G.aload_n C 0 dX10_findOrder_31 rfl rfl ?_
      refine G.getR (k := 20) C k_X10 (sm_67 hE) rfl (by decide) tg_1451 dX10_findOrder_32 ?_
      refine G.iload C 4 dX10_findOrder_35 rfl ?_
      obtain ⟨hg_15, h⟩ := gd_ex h
      refine G.aJ (j := ix x4) C (sm_91 hE) hg_15 rfl dX10_findOrder_37 ?_
      obtain ⟨v_17, hv_16, h⟩ := bd_ex h
      refine G.callS (rest := []) C (s_X10_ones  hv_16) ⟨tg_1706, tg_103, ok_X10_ones, Nat.le_of_ble_eq_true rfl, Nat.le_of_ble_eq_true rfl⟩ tg_1704 tg_1705 rfl (Nat.le_of_ble_eq_true rfl) dX10_findOrder_38 ⟨Nat.le_refl 0, Nat.le_refl 0⟩ ?_
      refine G.istore (L' := [(5, .int v_17), (0, .ref (eA E 67)), (1, .int x1), (2, .int x2), (3, .int x3), (4, .int x4)]) C dX10_findOrder_41 rfl (by decide) rfl ?_
      refine G.iload_n C 3 dX10_findOrder_43 rfl rfl ?_
      refine G.iload C 0 dX10_findOrder_44 rfl ?_
      refine G.iconst (v := (4 : Int32)) C dX10_findOrder_46 (by decide) ?_
      refine G.idiv C dX10_findOrder_47 (by decide) ?_
      refine G.iadd C dX10_findOrder_48 ?_
      obtain ⟨x6_18, ex6_18, h⟩ := ltv_ex h
      refine G.istore (L' := [(6, .int x6_18), (5, .int v_17), (0, .ref (eA E 67)), (1, .int x1), (2, .int x2), (3, .int x3), (4, .int x4)]) C dX10_findOrder_49 ex6_18 (by decide) rfl ?_
      refine G.aload_n C 2 dX10_findOrder_51 rfl rfl ?_
      refine G.iload C 6 dX10_findOrder_52 rfl ?_
      refine G.iload C 1 dX10_findOrder_54 rfl ?_
      refine G.iload C 0 dX10_findOrder_56 rfl ?_
      refine G.bipush (v := (15 : Int32)) C dX10_findOrder_58 (by decide) ?_
      refine G.icmp_le (tgt := 68) C dX10_findOrder_60 (by decide) (fun hc => ?_) (fun hc => ?_)
      · have h := it_t h hc
        refine G.iload C 0 dX10_findOrder_68 rfl ?_
        obtain ⟨M_20, hv_19, h⟩ := bd_ex h
        refine G.callV (rest := []) C (s_X10_puts_67 hE  hv_19) ⟨tg_1852, tg_103, ok_X10_puts, Nat.le_of_ble_eq_true rfl, Nat.le_of_ble_eq_true rfl⟩ tg_1849 tg_1851 tg_76 (sm_67 hE) rfl rfl (Nat.le_of_ble_eq_true rfl) dX10_findOrder_70 ⟨Nat.le_refl 0, Nat.le_refl 0⟩ ?_
        obtain ⟨x4_21, ex4_21, h⟩ := ltv_ex h
        refine G.iinc (L' := [(4, .int x4_21), (6, .int x6_18), (5, .int v_17), (0, .ref (eA E 67)), (1, .int x1), (2, .int x2), (3, .int x3)]) C 6 dX10_findOrder_73 rfl (ex4_21.trans rfl) (by decide) rfl ?_
        refine G.goto (tgt := 8) C dX10_findOrder_76 (by decide) ?_
        exact G.sub [3, 4, 5, 6, 0] rfl (hk_8 _ _ _ _ _  h)
      · have h := it_f h hc
        refine G.bipush (v := (15 : Int32)) C dX10_findOrder_63 (by decide) ?_
        refine G.goto (tgt := 70) C dX10_findOrder_65 (by decide) ?_
        obtain ⟨M_23, hv_22, h⟩ := bd_ex h
        refine G.callV (rest := []) C (s_X10_puts_67 hE  hv_22) ⟨tg_1852, tg_103, ok_X10_puts, Nat.le_of_ble_eq_true rfl, Nat.le_of_ble_eq_true rfl⟩ tg_1849 tg_1851 tg_76 (sm_67 hE) rfl rfl (Nat.le_of_ble_eq_true rfl) dX10_findOrder_70 ⟨Nat.le_refl 0, Nat.le_refl 0⟩ ?_
        obtain ⟨x4_24, ex4_24, h⟩ := ltv_ex h
        refine G.iinc (L' := [(4, .int x4_24), (6, .int x6_18), (5, .int v_17), (0, .ref (eA E 67)), (1, .int x1), (2, .int x2), (3, .int x3)]) C 6 dX10_findOrder_73 rfl (ex4_24.trans rfl) (by decide) rfl ?_
        refine G.goto (tgt := 8) C dX10_findOrder_76 (by decide) ?_
        exact G.sub [3, 4, 5, 6, 0] rfl (hk_8 _ _ _ _ _  h)
    · have h := it_f h hc
      refine G.goto (tgt := 73) C dX10_findOrder_28 (by decide) ?_
      obtain ⟨x4_25, ex4_25, h⟩ := ltv_ex h
      refine G.iinc (L' := [(4, .int x4_25), (0, .ref (eA E 67)), (1, .int x1), (2, .int x2), (3, .int x3)]) C 4 dX10_findOrder_73 rfl (ex4_25.trans rfl) (by decide) rfl ?_
      refine G.goto (tgt := 8) C dX10_findOrder_76 (by decide) ?_
      exact G.sub [1, 2, 3, 4, 0] rfl (hk_8 _ _ _ _ _  h)
def b_X10_findOrder_67_8 : Nat → Int32 → Int32 → Int32 → Int32 → Mm → Option (Int32 × Mm)
  | 0, _, _, _, _, _ => none
  | n + 1, x1, x2, x3, x4, M => bb_X10_findOrder_67_8 (b_X10_findOrder_67_8 n) x1 x2 x3 x4 M
set_option maxHeartbeats 4000000 in
theorem g_X10_findOrder_67_8  {n : Nat} {x1 : Int32} {x2 : Int32} {x3 : Int32} {x4 : Int32} {M : Mm} {v : Int32} {M' : Mm} (hE : Has shM (eH E)) (C : Cx RX10 cX10_findOrder 7 p (rmD 44) s m args meth c E) (hr : meth.sig.returnType = (some .boolean)) (h : b_X10_findOrder_67_8 n x1 x2 x3 x4 M = some (v, M')) : G p l e (rmD 44) s m args below meth c E 7 0 0 (QR below args s E 0 0 (some (.int v)) M') 8 [(0, .ref (eA E 67)), (1, .int x1), (2, .int x2), (3, .int x3), (4, .int x4)] [] M := by
  induction n generalizing x1 x2 x3 x4 M with
  | zero => cases h
  | succ n ih => exact gb_X10_findOrder_67_8 hE C hr (fun _ _ _ _ _ => ih)  h
def bb_X10_findOrder_67_0 (x1 : Int32) (x2 : Int32) (x3 : Int32) (M : Mm) : Option (Int32 × Mm) := ltv (wI M 67 41 (0 : Int32)) fun M_1 => b_X10_findOrder_67_8 FU x1 x2 x3 (0 : Int32) M_1
set_option maxHeartbeats 4000000 in
set_option maxRecDepth 100000 in
theorem gb_X10_findOrder_67_0  {x1 : Int32} {x2 : Int32} {x3 : Int32} {M : Mm} {v : Int32} {M' : Mm} (hE : Has shM (eH E)) (C : Cx RX10 cX10_findOrder 7 p (rmD 44) s m args meth c E) (hr : meth.sig.returnType = (some .boolean)) (h : bb_X10_findOrder_67_0 x1 x2 x3 M = some (v, M')) : G p l e (rmD 44) s m args below meth c E 7 0 0 (QR below args s E 0 0 (some (.int v)) M') 0 [(0, .ref (eA E 67)), (1, .int x1), (2, .int x2), (3, .int x3)] [] M := by
  unfold bb_X10_findOrder_67_0 at h
  refine G.aload_n C 0 dX10_findOrder_0 rfl rfl ?_
  refine G.iconst (v := (0 : Int32)) C dX10_findOrder_1 (by decide) ?_
  obtain ⟨M_1, eM_1, h⟩ := ltv_ex h
  refine G.putI (k := 41) C k_X10 (sm_67 hE) rfl (by decide) tg_1472 rfl rfl dX10_findOrder_2 eM_1 ?_
  refine G.iconst (v := (0 : Int32)) C dX10_findOrder_5 (by decide) ?_
  refine G.istore (L' := [(4, .int (0 : Int32)), (0, .ref (eA E 67)), (1, .int x1), (2, .int x2), (3, .int x3)]) C dX10_findOrder_6 rfl (by decide) rfl ?_
  exact G.sub [1, 2, 3, 4, 0] rfl (g_X10_findOrder_67_8 hE C hr  h)
def f_X10_findOrder_67 (x1 : Int32) (x2 : Int32) (x3 : Int32) (M : Mm) : Option (Int32 × Mm) := bb_X10_findOrder_67_0 x1 x2 x3 M
theorem s_X10_findOrder_67 {l : Launch} {E : Ev} {x1 : Int32} {x2 : Int32} {x3 : Int32} {M : Mm} {v : Int32} {M' : Mm} (hE : Has shM (eH E)) (h : f_X10_findOrder_67 x1 x2 x3 M = some (v, M')) : MetA l yX10_findOrder cX10_findOrder 7 (some .boolean) 44 E [.ref (eA E 67), .int x1, .int x2, .int x3] M (some (.int v)) M' := by
  refine MetA.of (by decide +kernel) (Nat.le_of_ble_eq_true rfl) ?_
  intro p e s m below meth c C hr hnm
  exact G.sub [0, 1, 2, 3] rfl (gb_X10_findOrder_67_0 hE C hr  h)
def bb_X10_hours_67_101 (k_101 : Int64 → Int64 → Int64 → Int32 → Mm → Option (Int64 × Mm)) (x4 : Int64) (x6 : Int64) (x8 : Int64) (x10 : Int32) (M : Mm) : Option (Int64 × Mm) := if (M.1 67 41) ≤ x10 then (gd (decide (¬ x6 = 0)) (some (((1000 : Int64) * x4) / x6, M))) else (gd (inb x10 64) (ltv (x4 + ((((M.1 104 (ix x10)).toInt64) * x6) * x8)) fun x4_19 => gd (inb x10 64) (ltv (x6 * (((16 : Int32) - (M.1 105 (ix x10))).toInt64)) fun x6_21 => ltv (x8 / (16 : Int64)) fun x8_22 => ltv (x10 + (1 : Int32)) fun x10_23 => k_101 x4_19 x6_21 x8_22 x10_23 M)))
set_option maxHeartbeats 4000000 in
set_option maxRecDepth 100000 in
theorem gb_X10_hours_67_101  {k_101 : Int64 → Int64 → Int64 → Int32 → Mm → Option (Int64 × Mm)} {x4 : Int64} {x6 : Int64} {x8 : Int64} {x10 : Int32} {M : Mm} {v : Int64} {M' : Mm} (hE : Has shM (eH E)) (C : Cx RX10 cX10_hours 11 p (rmD 45) s m args meth c E) (hr : meth.sig.returnType = (some .long)) (hk_101 : ∀ (x4 : Int64) (x6 : Int64) (x8 : Int64) (x10 : Int32) (M : Mm), k_101 x4 x6 x8 x10 M = some (v, M') → G p l e (rmD 45) s m args below meth c E 11 0 0 (QR below args s E 0 0 (some (.long v)) M') 101 [(0, .ref (eA E 67)), (4, .long x4), (6, .long x6), (8, .long x8), (10, .int x10)] [] M) (h : bb_X10_hours_67_101 k_101 x4 x6 x8 x10 M = some (v, M')) : G p l e (rmD 45) s m args below meth c E 11 0 0 (QR below args s E 0 0 (some (.long v)) M') 101 [(0, .ref (eA E 67)), (4, .long x4), (6, .long x6), (8, .long x8), (10, .int x10)] [] M := by
  unfold bb_X10_hours_67_101 at h
  refine G.iload C 4 dX10_hours_101 rfl ?_
  refine G.aload_n C 0 dX10_hours_103 rfl rfl ?_
  refine G.getI (k := 41) C k_X10 (sm_67 hE) rfl (by decide) tg_1472 dX10_hours_104 ?_
  refine G.icmp_ge (tgt := 159) C dX10_hours_107 (by decide) (fun hc => ?_) (fun hc => ?_)
  · have h := it_t h hc
    refine G.ldc2 C tg_1866 dX10_hours_159 ?_
    refine G.lload C 1 dX10_hours_162 rfl ?_
    refine G.lmul C dX10_hours_164 ?_
    refine G.lload C 2 dX10_hours_165 rfl ?_
    obtain ⟨hn_17, h⟩ := gd_ex h
    refine G.ldiv C dX10_hours_167 (of_decide_eq_true hn_17) ?_
    cases h
    exact G.lret C hr dX10_hours_168
  · have h := it_f h hc
    refine G.lload C 1 dX10_hours_110 rfl ?_
    refine G.aload_n C 0 dX10_hours_112 rfl rfl ?_
    refine G.getR (k := 38) C k_X10 (sm_67 hE) rfl (by decide) tg_1469 dX10_hours_113 ?_
    refine G.iload C 4 dX10_hours_116 rfl ?_
    obtain ⟨hg_18, h⟩ := gd_ex h
    refine G.aI (j := ix x10) C (sm_104 hE) hg_18 rfl dX10_hours_118 ?_
    refine G.i2l (v := (M.1 104 (ix x10)).toInt64) C dX10_hours_119 rfl ?_
    refine G.lload C 2 dX10_hours_120 rfl ?_
    refine G.lmul C dX10_hours_122 ?_
    refine G.lload C 3 dX10_hours_123 rfl ?_
    refine G.lmul C dX10_hours_125 ?_
    refine G.ladd C dX10_hours_126 ?_
    obtain ⟨x4_19, ex4_19, h⟩ := ltv_ex h
    refine G.lstore (L' := [(4, .long x4_19), (0, .ref (eA E 67)), (6, .long x6), (8, .long x8), (10, .int x10)]) C dX10_hours_127 ex4_19 (by decide) rfl ?_
    refine G.lload C 2 dX10_hours_129 rfl ?_
    refine G.bipush (v := (16 : Int32)) C dX10_hours_131 (by decide) ?_
    refine G.aload_n C 1 dX10_hours_133 rfl rfl ?_
    refine G.getR (k := 39) C k_X10 (sm_67 hE) rfl (by decide) tg_1470 dX10_hours_134 ?_
    refine G.iload C 4 dX10_hours_137 rfl ?_
    obtain ⟨hg_20, h⟩ := gd_ex h
    refine G.aI (j := ix x10) C (sm_105 hE) hg_20 rfl dX10_hours_139 ?_
    refine G.isub C dX10_hours_140 ?_
    refine G.i2l (v := ((16 : Int32) - (M.1 105 (ix x10))).toInt64) C dX10_hours_141 rfl ?_
    refine G.lmul C dX10_hours_142 ?_
    obtain ⟨x6_21, ex6_21, h⟩ := ltv_ex h
    refine G.lstore (L' := [(6, .long x6_21), (4, .long x4_19), (0, .ref (eA E 67)), (8, .long x8), (10, .int x10)]) C dX10_hours_143 ex6_21 (by decide) rfl ?_
    refine G.lload C 3 dX10_hours_145 rfl ?_
    refine G.ldc2 C tg_1865 dX10_hours_147 ?_
    refine G.ldiv C dX10_hours_150 (by decide) ?_
    obtain ⟨x8_22, ex8_22, h⟩ := ltv_ex h
    refine G.lstore (L' := [(8, .long x8_22), (6, .long x6_21), (4, .long x4_19), (0, .ref (eA E 67)), (10, .int x10)]) C dX10_hours_151 ex8_22 (by decide) rfl ?_
    obtain ⟨x10_23, ex10_23, h⟩ := ltv_ex h
    refine G.iinc (L' := [(10, .int x10_23), (8, .long x8_22), (6, .long x6_21), (4, .long x4_19), (0, .ref (eA E 67))]) C 4 dX10_hours_153 rfl (ex10_23.trans rfl) (by decide) rfl ?_
    refine G.goto (tgt := 101) C dX10_hours_156 (by decide) ?_
    exact G.sub [4, 3, 2, 1, 0] rfl (hk_101 _ _ _ _ _  h)
def b_X10_hours_67_101 : Nat → Int64 → Int64 → Int64 → Int32 → Mm → Option (Int64 × Mm)
  | 0, _, _, _, _, _ => none
  | n + 1, x4, x6, x8, x10, M => bb_X10_hours_67_101 (b_X10_hours_67_101 n) x4 x6 x8 x10 M
set_option maxHeartbeats 4000000 in
theorem g_X10_hours_67_101  {n : Nat} {x4 : Int64} {x6 : Int64} {x8 : Int64} {x10 : Int32} {M : Mm} {v : Int64} {M' : Mm} (hE : Has shM (eH E)) (C : Cx RX10 cX10_hours 11 p (rmD 45) s m args meth c E) (hr : meth.sig.returnType = (some .long)) (h : b_X10_hours_67_101 n x4 x6 x8 x10 M = some (v, M')) : G p l e (rmD 45) s m args below meth c E 11 0 0 (QR below args s E 0 0 (some (.long v)) M') 101 [(0, .ref (eA E 67)), (4, .long x4), (6, .long x6), (8, .long x8), (10, .int x10)] [] M := by
  induction n generalizing x4 x6 x8 x10 M with
  | zero => cases h
  | succ n ih => exact gb_X10_hours_67_101 hE C hr (fun _ _ _ _ _ => ih)  h
def bb_X10_hours_67_75 (k_75 : Int64 → Int64 → Int64 → Int32 → Mm → Option (Int64 × Mm)) (x4 : Int64) (x6 : Int64) (x8 : Int64) (x10 : Int32) (M : Mm) : Option (Int64 × Mm) := if (M.1 67 41) ≤ x10 then (b_X10_hours_67_101 FU x4 x6 x8 (0 : Int32) M) else (ltv (x8 * (16 : Int64)) fun x8_15 => ltv (x10 + (1 : Int32)) fun x10_16 => k_75 x4 x6 x8_15 x10_16 M)
set_option maxHeartbeats 4000000 in
set_option maxRecDepth 100000 in
theorem gb_X10_hours_67_75  {k_75 : Int64 → Int64 → Int64 → Int32 → Mm → Option (Int64 × Mm)} {x4 : Int64} {x6 : Int64} {x8 : Int64} {x10 : Int32} {M : Mm} {v : Int64} {M' : Mm} (hE : Has shM (eH E)) (C : Cx RX10 cX10_hours 11 p (rmD 45) s m args meth c E) (hr : meth.sig.returnType = (some .long)) (hk_75 : ∀ (x4 : Int64) (x6 : Int64) (x8 : Int64) (x10 : Int32) (M : Mm), k_75 x4 x6 x8 x10 M = some (v, M') → G p l e (rmD 45) s m args below meth c E 11 0 0 (QR below args s E 0 0 (some (.long v)) M') 75 [(0, .ref (eA E 67)), (4, .long x4), (6, .long x6), (8, .long x8), (10, .int x10)] [] M) (h : bb_X10_hours_67_75 k_75 x4 x6 x8 x10 M = some (v, M')) : G p l e (rmD 45) s m args below meth c E 11 0 0 (QR below args s E 0 0 (some (.long v)) M') 75 [(0, .ref (eA E 67)), (4, .long x4), (6, .long x6), (8, .long x8), (10, .int x10)] [] M := by
  unfold bb_X10_hours_67_75 at h
  refine G.iload C 4 dX10_hours_75 rfl ?_
  refine G.aload_n C 0 dX10_hours_77 rfl rfl ?_
  refine G.getI (k := 41) C k_X10 (sm_67 hE) rfl (by decide) tg_1472 dX10_hours_78 ?_
  refine G.icmp_ge (tgt := 98) C dX10_hours_81 (by decide) (fun hc => ?_) (fun hc => ?_)
  · have h := it_t h hc
    refine G.iconst (v := (0 : Int32)) C dX10_hours_98 (by decide) ?_
    refine G.istore (L' := [(10, .int (0 : Int32)), (0, .ref (eA E 67)), (4, .long x4), (6, .long x6), (8, .long x8)]) C dX10_hours_99 rfl (by decide) rfl ?_
    exact G.sub [1, 2, 3, 4, 0] rfl (g_X10_hours_67_101 hE C hr  h)
  · have h := it_f h hc
    refine G.lload C 3 dX10_hours_84 rfl ?_
    refine G.ldc2 C tg_1865 dX10_hours_86 ?_
    refine G.lmul C dX10_hours_89 ?_
    obtain ⟨x8_15, ex8_15, h⟩ := ltv_ex h
    refine G.lstore (L' := [(8, .long x8_15), (0, .ref (eA E 67)), (4, .long x4), (6, .long x6), (10, .int x10)]) C dX10_hours_90 ex8_15 (by decide) rfl ?_
    obtain ⟨x10_16, ex10_16, h⟩ := ltv_ex h
    refine G.iinc (L' := [(10, .int x10_16), (8, .long x8_15), (0, .ref (eA E 67)), (4, .long x4), (6, .long x6)]) C 4 dX10_hours_92 rfl (ex10_16.trans rfl) (by decide) rfl ?_
    refine G.goto (tgt := 75) C dX10_hours_95 (by decide) ?_
    exact G.sub [2, 3, 4, 1, 0] rfl (hk_75 _ _ _ _ _  h)
def b_X10_hours_67_75 : Nat → Int64 → Int64 → Int64 → Int32 → Mm → Option (Int64 × Mm)
  | 0, _, _, _, _, _ => none
  | n + 1, x4, x6, x8, x10, M => bb_X10_hours_67_75 (b_X10_hours_67_75 n) x4 x6 x8 x10 M
set_option maxHeartbeats 4000000 in
theorem g_X10_hours_67_75  {n : Nat} {x4 : Int64} {x6 : Int64} {x8 : Int64} {x10 : Int32} {M : Mm} {v : Int64} {M' : Mm} (hE : Has shM (eH E)) (C : Cx RX10 cX10_hours 11 p (rmD 45) s m args meth c E) (hr : meth.sig.returnType = (some .long)) (h : b_X10_hours_67_75 n x4 x6 x8 x10 M = some (v, M')) : G p l e (rmD 45) s m args below meth c E 11 0 0 (QR below args s E 0 0 (some (.long v)) M') 75 [(0, .ref (eA E 67)), (4, .long x4), (6, .long x6), (8, .long x8), (10, .int x10)] [] M := by
  induction n generalizing x4 x6 x8 x10 M with
  | zero => cases h
  | succ n ih => exact gb_X10_hours_67_75 hE C hr (fun _ _ _ _ _ => ih)  h
def bb_X10_hours_67_40 (x1 : Int32) (x2 : Int32) (x3 : Int32) (s1 : Int32) (M : Mm) : Option (Int64 × Mm) := bd2 (f_X10_bad_67 s1 (2 : Int32) M) fun v_11 M_10 => if v_11 = 0 then (bd2 (f_X10_findOrder_67 x1 x2 x3 M_10) fun v_14 M_13 => if v_14 = 0 then (some ((-1 : Int64), M_13)) else (b_X10_hours_67_75 FU (0 : Int64) (1 : Int64) (1 : Int64) (0 : Int32) M_13)) else (some ((0 : Int64), M_10))
set_option maxHeartbeats 4000000 in
set_option maxRecDepth 100000 in
theorem gb_X10_hours_67_40  {x1 : Int32} {x2 : Int32} {x3 : Int32} {s1 : Int32} {M : Mm} {v : Int64} {M' : Mm} (hE : Has shM (eH E)) (C : Cx RX10 cX10_hours 11 p (rmD 45) s m args meth c E) (hr : meth.sig.returnType = (some .long)) (h : bb_X10_hours_67_40 x1 x2 x3 s1 M = some (v, M')) : G p l e (rmD 45) s m args below meth c E 11 0 0 (QR below args s E 0 0 (some (.long v)) M') 40 [(0, .ref (eA E 67)), (1, .int x1), (2, .int x2), (3, .int x3)] [.int s1, .ref (eA E 67)] M := by
  unfold bb_X10_hours_67_40 at h
  refine G.iconst (v := (2 : Int32)) C dX10_hours_40 (by decide) ?_
  obtain ⟨v_11, M_10, hv_9, h⟩ := bd2_ex h
  refine G.callV (rest := []) C (s_X10_bad_67 hE  hv_9) ⟨tg_1600, tg_103, ok_X10_bad, Nat.le_of_ble_eq_true rfl, Nat.le_of_ble_eq_true rfl⟩ tg_1597 tg_1599 tg_46 (sm_67 hE) rfl rfl (Nat.le_of_ble_eq_true rfl) dX10_hours_41 ⟨Nat.le_refl 0, Nat.le_refl 0⟩ ?_
  refine G.if_eq (tgt := 49) C dX10_hours_44 (by decide) (fun hc => ?_) (fun hc => ?_)
  · have h := it_t h hc
    refine G.aload_n C 0 dX10_hours_49 rfl rfl ?_
    refine G.iload_n C 1 dX10_hours_50 rfl rfl ?_
    refine G.iload_n C 2 dX10_hours_51 rfl rfl ?_
    refine G.iload_n C 3 dX10_hours_52 rfl rfl ?_
    obtain ⟨v_14, M_13, hv_12, h⟩ := bd2_ex h
    refine G.callV (rest := []) C (s_X10_findOrder_67 hE  hv_12) ⟨tg_1848, tg_103, ok_X10_findOrder, Nat.le_of_ble_eq_true rfl, Nat.le_of_ble_eq_true rfl⟩ tg_1845 tg_1847 tg_75 (sm_67 hE) rfl rfl (Nat.le_of_ble_eq_true rfl) dX10_hours_53 ⟨Nat.le_refl 0, Nat.le_refl 0⟩ ?_
    refine G.if_ne (tgt := 63) C dX10_hours_56 (by decide) (fun hc => ?_) (fun hc => ?_)
    · have h := it_f h hc
      refine G.lconst (v := (0 : Int64)) C dX10_hours_63 (by decide) ?_
      refine G.lstore (L' := [(4, .long (0 : Int64)), (0, .ref (eA E 67)), (1, .int x1), (2, .int x2), (3, .int x3)]) C dX10_hours_64 rfl (by decide) rfl ?_
      refine G.lconst (v := (1 : Int64)) C dX10_hours_66 (by decide) ?_
      refine G.lstore (L' := [(6, .long (1 : Int64)), (4, .long (0 : Int64)), (0, .ref (eA E 67)), (1, .int x1), (2, .int x2), (3, .int x3)]) C dX10_hours_67 rfl (by decide) rfl ?_
      refine G.lconst (v := (1 : Int64)) C dX10_hours_69 (by decide) ?_
      refine G.lstore (L' := [(8, .long (1 : Int64)), (6, .long (1 : Int64)), (4, .long (0 : Int64)), (0, .ref (eA E 67)), (1, .int x1), (2, .int x2), (3, .int x3)]) C dX10_hours_70 rfl (by decide) rfl ?_
      refine G.iconst (v := (0 : Int32)) C dX10_hours_72 (by decide) ?_
      refine G.istore (L' := [(10, .int (0 : Int32)), (8, .long (1 : Int64)), (6, .long (1 : Int64)), (4, .long (0 : Int64)), (0, .ref (eA E 67)), (1, .int x1), (2, .int x2), (3, .int x3)]) C dX10_hours_73 rfl (by decide) rfl ?_
      exact G.sub [4, 3, 2, 1, 0] rfl (g_X10_hours_67_75 hE C hr  h)
    · have h := it_t h hc
      refine G.ldc2 C tg_1655 dX10_hours_59 ?_
      cases h
      exact G.lret C hr dX10_hours_62
  · have h := it_f h hc
    refine G.lconst (v := (0 : Int64)) C dX10_hours_47 (by decide) ?_
    cases h
    exact G.lret C hr dX10_hours_48
def bb_X10_hours_67_19 (x1 : Int32) (x2 : Int32) (x3 : Int32) (s1 : Int32) (M : Mm) : Option (Int64 × Mm) := bd2 (f_X10_bad_67 s1 (1 : Int32) M) fun v_6 M_5 => if v_6 = 0 then (bd (f_X10_isChance x2 x3) fun v_8 => if v_8 = 0 then (bb_X10_hours_67_40 x1 x2 x3 (1 : Int32) M_5) else (bb_X10_hours_67_40 x1 x2 x3 (0 : Int32) M_5)) else (some ((0 : Int64), M_5))
set_option maxHeartbeats 4000000 in
set_option maxRecDepth 100000 in
theorem gb_X10_hours_67_19  {x1 : Int32} {x2 : Int32} {x3 : Int32} {s1 : Int32} {M : Mm} {v : Int64} {M' : Mm} (hE : Has shM (eH E)) (C : Cx RX10 cX10_hours 11 p (rmD 45) s m args meth c E) (hr : meth.sig.returnType = (some .long)) (h : bb_X10_hours_67_19 x1 x2 x3 s1 M = some (v, M')) : G p l e (rmD 45) s m args below meth c E 11 0 0 (QR below args s E 0 0 (some (.long v)) M') 19 [(0, .ref (eA E 67)), (1, .int x1), (2, .int x2), (3, .int x3)] [.int s1, .ref (eA E 67)] M := by
  unfold bb_X10_hours_67_19 at h
  refine G.iconst (v := (1 : Int32)) C dX10_hours_19 (by decide) ?_
  obtain ⟨v_6, M_5, hv_4, h⟩ := bd2_ex h
  refine G.callV (rest := []) C (s_X10_bad_67 hE  hv_4) ⟨tg_1600, tg_103, ok_X10_bad, Nat.le_of_ble_eq_true rfl, Nat.le_of_ble_eq_true rfl⟩ tg_1597 tg_1599 tg_46 (sm_67 hE) rfl rfl (Nat.le_of_ble_eq_true rfl) dX10_hours_20 ⟨Nat.le_refl 0, Nat.le_refl 0⟩ ?_
  refine G.if_ne (tgt := 47) C dX10_hours_23 (by decide) (fun hc => ?_) (fun hc => ?_)
  · have h := it_f h hc
    refine G.lconst (v := (0 : Int64)) C dX10_hours_47 (by decide) ?_
    cases h
    exact G.lret C hr dX10_hours_48
  · have h := it_t h hc
    refine G.aload_n C 0 dX10_hours_26 rfl rfl ?_
    refine G.iload_n C 2 dX10_hours_27 rfl rfl ?_
    refine G.iload_n C 3 dX10_hours_28 rfl rfl ?_
    obtain ⟨v_8, hv_7, h⟩ := bd_ex h
    refine G.callS (rest := [.ref (eA E 67)]) C (s_X10_isChance  hv_7) ⟨tg_1844, tg_103, ok_X10_isChance, Nat.le_of_ble_eq_true rfl, Nat.le_of_ble_eq_true rfl⟩ tg_1842 tg_1843 rfl (Nat.le_of_ble_eq_true rfl) dX10_hours_29 ⟨Nat.le_refl 0, Nat.le_refl 0⟩ ?_
    refine G.if_ne (tgt := 39) C dX10_hours_32 (by decide) (fun hc => ?_) (fun hc => ?_)
    · have h := it_f h hc
      refine G.iconst (v := (0 : Int32)) C dX10_hours_39 (by decide) ?_
      exact G.sub [0, 1, 2, 3] rfl (gb_X10_hours_67_40 hE C hr  h)
    · have h := it_t h hc
      refine G.iconst (v := (1 : Int32)) C dX10_hours_35 (by decide) ?_
      refine G.goto (tgt := 40) C dX10_hours_36 (by decide) ?_
      exact G.sub [0, 1, 2, 3] rfl (gb_X10_hours_67_40 hE C hr  h)
def bb_X10_hours_67_0 (x1 : Int32) (x2 : Int32) (x3 : Int32) (M : Mm) : Option (Int64 × Mm) := ltv (wI M 67 0 (0 : Int32)) fun M_1 => bd (f_X10_isLetter_67 x1 M_1) fun v_3 => if v_3 = 0 then (bb_X10_hours_67_19 x1 x2 x3 (1 : Int32) M_1) else (bb_X10_hours_67_19 x1 x2 x3 (0 : Int32) M_1)
set_option maxHeartbeats 4000000 in
set_option maxRecDepth 100000 in
theorem gb_X10_hours_67_0  {x1 : Int32} {x2 : Int32} {x3 : Int32} {M : Mm} {v : Int64} {M' : Mm} (hE : Has shM (eH E)) (C : Cx RX10 cX10_hours 11 p (rmD 45) s m args meth c E) (hr : meth.sig.returnType = (some .long)) (h : bb_X10_hours_67_0 x1 x2 x3 M = some (v, M')) : G p l e (rmD 45) s m args below meth c E 11 0 0 (QR below args s E 0 0 (some (.long v)) M') 0 [(0, .ref (eA E 67)), (1, .int x1), (2, .int x2), (3, .int x3)] [] M := by
  unfold bb_X10_hours_67_0 at h
  refine G.aload_n C 0 dX10_hours_0 rfl rfl ?_
  refine G.iconst (v := (0 : Int32)) C dX10_hours_1 (by decide) ?_
  obtain ⟨M_1, eM_1, h⟩ := ltv_ex h
  refine G.putI (k := 0) C k_X10 (sm_67 hE) rfl (by decide) tg_1431 rfl rfl dX10_hours_2 eM_1 ?_
  refine G.aload_n C 0 dX10_hours_5 rfl rfl ?_
  refine G.aload_n C 0 dX10_hours_6 rfl rfl ?_
  refine G.iload_n C 1 dX10_hours_7 rfl rfl ?_
  obtain ⟨v_3, hv_2, h⟩ := bd_ex h
  refine G.callV (rest := [.ref (eA E 67)]) C (s_X10_isLetter_67 hE  hv_2) ⟨tg_1699, tg_103, ok_X10_isLetter, Nat.le_of_ble_eq_true rfl, Nat.le_of_ble_eq_true rfl⟩ tg_1696 tg_1698 tg_62 (sm_67 hE) rfl rfl (Nat.le_of_ble_eq_true rfl) dX10_hours_8 ⟨Nat.le_refl 0, Nat.le_refl 0⟩ ?_
  refine G.if_ne (tgt := 18) C dX10_hours_11 (by decide) (fun hc => ?_) (fun hc => ?_)
  · have h := it_f h hc
    refine G.iconst (v := (0 : Int32)) C dX10_hours_18 (by decide) ?_
    exact G.sub [0, 1, 2, 3] rfl (gb_X10_hours_67_19 hE C hr  h)
  · have h := it_t h hc
    refine G.iconst (v := (1 : Int32)) C dX10_hours_14 (by decide) ?_
    refine G.goto (tgt := 19) C dX10_hours_15 (by decide) ?_
    exact G.sub [0, 1, 2, 3] rfl (gb_X10_hours_67_19 hE C hr  h)
def f_X10_hours_67 (x1 : Int32) (x2 : Int32) (x3 : Int32) (M : Mm) : Option (Int64 × Mm) := bb_X10_hours_67_0 x1 x2 x3 M
theorem s_X10_hours_67 {l : Launch} {E : Ev} {x1 : Int32} {x2 : Int32} {x3 : Int32} {M : Mm} {v : Int64} {M' : Mm} (hE : Has shM (eH E)) (h : f_X10_hours_67 x1 x2 x3 M = some (v, M')) : MetA l yX10_hours cX10_hours 11 (some .long) 45 E [.ref (eA E 67), .int x1, .int x2, .int x3] M (some (.long v)) M' := by
  refine MetA.of (by decide +kernel) (Nat.le_of_ble_eq_true rfl) ?_
  intro p e s m below meth c C hr hnm
  exact G.sub [0, 1, 2, 3] rfl (gb_X10_hours_67_0 hE C hr  h)
def bb_X10_order_67_40 (x1 : Int32) (x2 : Int32) (x3 : Int32) (x4 : Int32) (s1 : Int32) (M : Mm) : Option (Int32 × Mm) := bd2 (f_X10_bad_67 s1 (2 : Int32) M) fun v_11 M_10 => if v_11 = 0 then (bd2 (f_X10_findOrder_67 x1 x2 x3 M_10) fun v_14 M_13 => if v_14 = 0 then (some ((-1 : Int32), M_13)) else (bd (f_X10_in x4 (0 : Int32) ((M_13.1 67 41) - (1 : Int32))) fun v_16 => if v_16 = 0 then (some ((-1 : Int32), M_13)) else (gd (inb x4 64) (some (M_13.1 106 (ix x4), M_13))))) else (some ((0 : Int32), M_10))
set_option maxHeartbeats 4000000 in
set_option maxRecDepth 100000 in
theorem gb_X10_order_67_40  {x1 : Int32} {x2 : Int32} {x3 : Int32} {x4 : Int32} {s1 : Int32} {M : Mm} {v : Int32} {M' : Mm} (hE : Has shM (eH E)) (C : Cx RX10 cX10_order 5 p (rmD 45) s m args meth c E) (hr : meth.sig.returnType = (some .int)) (h : bb_X10_order_67_40 x1 x2 x3 x4 s1 M = some (v, M')) : G p l e (rmD 45) s m args below meth c E 5 0 0 (QR below args s E 0 0 (some (.int v)) M') 40 [(0, .ref (eA E 67)), (1, .int x1), (2, .int x2), (3, .int x3), (4, .int x4)] [.int s1, .ref (eA E 67)] M := by
  unfold bb_X10_order_67_40 at h
  refine G.iconst (v := (2 : Int32)) C dX10_order_40 (by decide) ?_
  obtain ⟨v_11, M_10, hv_9, h⟩ := bd2_ex h
  refine G.callV (rest := []) C (s_X10_bad_67 hE  hv_9) ⟨tg_1600, tg_103, ok_X10_bad, Nat.le_of_ble_eq_true rfl, Nat.le_of_ble_eq_true rfl⟩ tg_1597 tg_1599 tg_46 (sm_67 hE) rfl rfl (Nat.le_of_ble_eq_true rfl) dX10_order_41 ⟨Nat.le_refl 0, Nat.le_refl 0⟩ ?_
  refine G.if_eq (tgt := 49) C dX10_order_44 (by decide) (fun hc => ?_) (fun hc => ?_)
  · have h := it_t h hc
    refine G.aload_n C 0 dX10_order_49 rfl rfl ?_
    refine G.iload_n C 1 dX10_order_50 rfl rfl ?_
    refine G.iload_n C 2 dX10_order_51 rfl rfl ?_
    refine G.iload_n C 3 dX10_order_52 rfl rfl ?_
    obtain ⟨v_14, M_13, hv_12, h⟩ := bd2_ex h
    refine G.callV (rest := []) C (s_X10_findOrder_67 hE  hv_12) ⟨tg_1848, tg_103, ok_X10_findOrder, Nat.le_of_ble_eq_true rfl, Nat.le_of_ble_eq_true rfl⟩ tg_1845 tg_1847 tg_75 (sm_67 hE) rfl rfl (Nat.le_of_ble_eq_true rfl) dX10_order_53 ⟨Nat.le_refl 0, Nat.le_refl 0⟩ ?_
    refine G.if_eq (tgt := 84) C dX10_order_56 (by decide) (fun hc => ?_) (fun hc => ?_)
    · have h := it_t h hc
      refine G.iconst (v := (-1 : Int32)) C dX10_order_84 (by decide) ?_
      cases h
      exact G.iret C hr dX10_order_85
    · have h := it_f h hc
      refine G.iload C 4 dX10_order_59 rfl ?_
      refine G.iconst (v := (0 : Int32)) C dX10_order_61 (by decide) ?_
      refine G.aload_n C 0 dX10_order_62 rfl rfl ?_
      refine G.getI (k := 41) C k_X10 (sm_67 hE) rfl (by decide) tg_1472 dX10_order_63 ?_
      refine G.iconst (v := (1 : Int32)) C dX10_order_66 (by decide) ?_
      refine G.isub C dX10_order_67 ?_
      obtain ⟨v_16, hv_15, h⟩ := bd_ex h
      refine G.callS (rest := []) C (s_X10_in  hv_15) ⟨tg_1596, tg_103, ok_X10_in, Nat.le_of_ble_eq_true rfl, Nat.le_of_ble_eq_true rfl⟩ tg_1594 tg_1595 rfl (Nat.le_of_ble_eq_true rfl) dX10_order_68 ⟨Nat.le_refl 0, Nat.le_refl 0⟩ ?_
      refine G.if_eq (tgt := 84) C dX10_order_71 (by decide) (fun hc => ?_) (fun hc => ?_)
      · have h := it_t h hc
        refine G.iconst (v := (-1 : Int32)) C dX10_order_84 (by decide) ?_
        cases h
        exact G.iret C hr dX10_order_85
      · have h := it_f h hc
        refine G.aload_n C 0 dX10_order_74 rfl rfl ?_
        refine G.getR (k := 40) C k_X10 (sm_67 hE) rfl (by decide) tg_1471 dX10_order_75 ?_
        refine G.iload C 4 dX10_order_78 rfl ?_
        obtain ⟨hg_17, h⟩ := gd_ex h
        refine G.aI (j := ix x4) C (sm_106 hE) hg_17 rfl dX10_order_80 ?_
        refine G.goto (tgt := 85) C dX10_order_81 (by decide) ?_
        cases h
        exact G.iret C hr dX10_order_85
  · have h := it_f h hc
    refine G.iconst (v := (0 : Int32)) C dX10_order_47 (by decide) ?_
    cases h
    exact G.iret C hr dX10_order_48
def bb_X10_order_67_19 (x1 : Int32) (x2 : Int32) (x3 : Int32) (x4 : Int32) (s1 : Int32) (M : Mm) : Option (Int32 × Mm) := bd2 (f_X10_bad_67 s1 (1 : Int32) M) fun v_6 M_5 => if v_6 = 0 then (bd (f_X10_isChance x2 x3) fun v_8 => if v_8 = 0 then (bb_X10_order_67_40 x1 x2 x3 x4 (1 : Int32) M_5) else (bb_X10_order_67_40 x1 x2 x3 x4 (0 : Int32) M_5)) else (some ((0 : Int32), M_5))
set_option maxHeartbeats 4000000 in
set_option maxRecDepth 100000 in
theorem gb_X10_order_67_19  {x1 : Int32} {x2 : Int32} {x3 : Int32} {x4 : Int32} {s1 : Int32} {M : Mm} {v : Int32} {M' : Mm} (hE : Has shM (eH E)) (C : Cx RX10 cX10_order 5 p (rmD 45) s m args meth c E) (hr : meth.sig.returnType = (some .int)) (h : bb_X10_order_67_19 x1 x2 x3 x4 s1 M = some (v, M')) : G p l e (rmD 45) s m args below meth c E 5 0 0 (QR below args s E 0 0 (some (.int v)) M') 19 [(0, .ref (eA E 67)), (1, .int x1), (2, .int x2), (3, .int x3), (4, .int x4)] [.int s1, .ref (eA E 67)] M := by
  unfold bb_X10_order_67_19 at h
  refine G.iconst (v := (1 : Int32)) C dX10_order_19 (by decide) ?_
  obtain ⟨v_6, M_5, hv_4, h⟩ := bd2_ex h
  refine G.callV (rest := []) C (s_X10_bad_67 hE  hv_4) ⟨tg_1600, tg_103, ok_X10_bad, Nat.le_of_ble_eq_true rfl, Nat.le_of_ble_eq_true rfl⟩ tg_1597 tg_1599 tg_46 (sm_67 hE) rfl rfl (Nat.le_of_ble_eq_true rfl) dX10_order_20 ⟨Nat.le_refl 0, Nat.le_refl 0⟩ ?_
  refine G.if_ne (tgt := 47) C dX10_order_23 (by decide) (fun hc => ?_) (fun hc => ?_)
  · have h := it_f h hc
    refine G.iconst (v := (0 : Int32)) C dX10_order_47 (by decide) ?_
    cases h
    exact G.iret C hr dX10_order_48
  · have h := it_t h hc
    refine G.aload_n C 0 dX10_order_26 rfl rfl ?_
    refine G.iload_n C 2 dX10_order_27 rfl rfl ?_
    refine G.iload_n C 3 dX10_order_28 rfl rfl ?_
    obtain ⟨v_8, hv_7, h⟩ := bd_ex h
    refine G.callS (rest := [.ref (eA E 67)]) C (s_X10_isChance  hv_7) ⟨tg_1844, tg_103, ok_X10_isChance, Nat.le_of_ble_eq_true rfl, Nat.le_of_ble_eq_true rfl⟩ tg_1842 tg_1843 rfl (Nat.le_of_ble_eq_true rfl) dX10_order_29 ⟨Nat.le_refl 0, Nat.le_refl 0⟩ ?_
    refine G.if_ne (tgt := 39) C dX10_order_32 (by decide) (fun hc => ?_) (fun hc => ?_)
    · have h := it_f h hc
      refine G.iconst (v := (0 : Int32)) C dX10_order_39 (by decide) ?_
      exact G.sub [0, 1, 2, 3, 4] rfl (gb_X10_order_67_40 hE C hr  h)
    · have h := it_t h hc
      refine G.iconst (v := (1 : Int32)) C dX10_order_35 (by decide) ?_
      refine G.goto (tgt := 40) C dX10_order_36 (by decide) ?_
      exact G.sub [0, 1, 2, 3, 4] rfl (gb_X10_order_67_40 hE C hr  h)
def bb_X10_order_67_0 (x1 : Int32) (x2 : Int32) (x3 : Int32) (x4 : Int32) (M : Mm) : Option (Int32 × Mm) := ltv (wI M 67 0 (0 : Int32)) fun M_1 => bd (f_X10_isLetter_67 x1 M_1) fun v_3 => if v_3 = 0 then (bb_X10_order_67_19 x1 x2 x3 x4 (1 : Int32) M_1) else (bb_X10_order_67_19 x1 x2 x3 x4 (0 : Int32) M_1)
set_option maxHeartbeats 4000000 in
set_option maxRecDepth 100000 in
theorem gb_X10_order_67_0  {x1 : Int32} {x2 : Int32} {x3 : Int32} {x4 : Int32} {M : Mm} {v : Int32} {M' : Mm} (hE : Has shM (eH E)) (C : Cx RX10 cX10_order 5 p (rmD 45) s m args meth c E) (hr : meth.sig.returnType = (some .int)) (h : bb_X10_order_67_0 x1 x2 x3 x4 M = some (v, M')) : G p l e (rmD 45) s m args below meth c E 5 0 0 (QR below args s E 0 0 (some (.int v)) M') 0 [(0, .ref (eA E 67)), (1, .int x1), (2, .int x2), (3, .int x3), (4, .int x4)] [] M := by
  unfold bb_X10_order_67_0 at h
  refine G.aload_n C 0 dX10_order_0 rfl rfl ?_
  refine G.iconst (v := (0 : Int32)) C dX10_order_1 (by decide) ?_
  obtain ⟨M_1, eM_1, h⟩ := ltv_ex h
  refine G.putI (k := 0) C k_X10 (sm_67 hE) rfl (by decide) tg_1431 rfl rfl dX10_order_2 eM_1 ?_
  refine G.aload_n C 0 dX10_order_5 rfl rfl ?_
  refine G.aload_n C 0 dX10_order_6 rfl rfl ?_
  refine G.iload_n C 1 dX10_order_7 rfl rfl ?_
  obtain ⟨v_3, hv_2, h⟩ := bd_ex h
  refine G.callV (rest := [.ref (eA E 67)]) C (s_X10_isLetter_67 hE  hv_2) ⟨tg_1699, tg_103, ok_X10_isLetter, Nat.le_of_ble_eq_true rfl, Nat.le_of_ble_eq_true rfl⟩ tg_1696 tg_1698 tg_62 (sm_67 hE) rfl rfl (Nat.le_of_ble_eq_true rfl) dX10_order_8 ⟨Nat.le_refl 0, Nat.le_refl 0⟩ ?_
  refine G.if_ne (tgt := 18) C dX10_order_11 (by decide) (fun hc => ?_) (fun hc => ?_)
  · have h := it_f h hc
    refine G.iconst (v := (0 : Int32)) C dX10_order_18 (by decide) ?_
    exact G.sub [0, 1, 2, 3, 4] rfl (gb_X10_order_67_19 hE C hr  h)
  · have h := it_t h hc
    refine G.iconst (v := (1 : Int32)) C dX10_order_14 (by decide) ?_
    refine G.goto (tgt := 19) C dX10_order_15 (by decide) ?_
    exact G.sub [0, 1, 2, 3, 4] rfl (gb_X10_order_67_19 hE C hr  h)
def f_X10_order_67 (x1 : Int32) (x2 : Int32) (x3 : Int32) (x4 : Int32) (M : Mm) : Option (Int32 × Mm) := bb_X10_order_67_0 x1 x2 x3 x4 M
theorem s_X10_order_67 {l : Launch} {E : Ev} {x1 : Int32} {x2 : Int32} {x3 : Int32} {x4 : Int32} {M : Mm} {v : Int32} {M' : Mm} (hE : Has shM (eH E)) (h : f_X10_order_67 x1 x2 x3 x4 M = some (v, M')) : MetA l yX10_order cX10_order 5 (some .int) 45 E [.ref (eA E 67), .int x1, .int x2, .int x3, .int x4] M (some (.int v)) M' := by
  refine MetA.of (by decide +kernel) (Nat.le_of_ble_eq_true rfl) ?_
  intro p e s m below meth c C hr hnm
  exact G.sub [0, 1, 2, 3, 4] rfl (gb_X10_order_67_0 hE C hr  h)
def bb_X10_bars_67_74 (k_74 : Int64 → Int64 → Int32 → Mm → Option (Int64 × Mm)) (x4 : Int64) (x6 : Int64) (x8 : Int32) (M : Mm) : Option (Int64 × Mm) := if (M.1 67 41) ≤ x8 then (gd (decide (¬ x6 = 0)) (some (x4 / x6, M))) else (ltv (x4 * (16 : Int64)) fun x4_16 => gd (inb x8 64) (ltv (x6 * (((16 : Int32) - (M.1 105 (ix x8))).toInt64)) fun x6_18 => ltv (x8 + (1 : Int32)) fun x8_19 => k_74 x4_16 x6_18 x8_19 M))
set_option maxHeartbeats 4000000 in
set_option maxRecDepth 100000 in
theorem gb_X10_bars_67_74  {k_74 : Int64 → Int64 → Int32 → Mm → Option (Int64 × Mm)} {x4 : Int64} {x6 : Int64} {x8 : Int32} {M : Mm} {v : Int64} {M' : Mm} (hE : Has shM (eH E)) (C : Cx RX10 cX10_bars 9 p (rmD 45) s m args meth c E) (hr : meth.sig.returnType = (some .long)) (hk_74 : ∀ (x4 : Int64) (x6 : Int64) (x8 : Int32) (M : Mm), k_74 x4 x6 x8 M = some (v, M') → G p l e (rmD 45) s m args below meth c E 9 0 0 (QR below args s E 0 0 (some (.long v)) M') 74 [(0, .ref (eA E 67)), (4, .long x4), (6, .long x6), (8, .int x8)] [] M) (h : bb_X10_bars_67_74 k_74 x4 x6 x8 M = some (v, M')) : G p l e (rmD 45) s m args below meth c E 9 0 0 (QR below args s E 0 0 (some (.long v)) M') 74 [(0, .ref (eA E 67)), (4, .long x4), (6, .long x6), (8, .int x8)] [] M := by
  unfold bb_X10_bars_67_74 at h
  refine G.iload C 3 dX10_bars_74 rfl ?_
  refine G.aload_n C 0 dX10_bars_76 rfl rfl ?_
  refine G.getI (k := 41) C k_X10 (sm_67 hE) rfl (by decide) tg_1472 dX10_bars_77 ?_
  refine G.icmp_ge (tgt := 113) C dX10_bars_80 (by decide) (fun hc => ?_) (fun hc => ?_)
  · have h := it_t h hc
    refine G.lload C 1 dX10_bars_113 rfl ?_
    refine G.lload C 2 dX10_bars_115 rfl ?_
    obtain ⟨hn_15, h⟩ := gd_ex h
    refine G.ldiv C dX10_bars_117 (of_decide_eq_true hn_15) ?_
    cases h
    exact G.lret C hr dX10_bars_118
  · have h := it_f h hc
    refine G.lload C 1 dX10_bars_83 rfl ?_
    refine G.ldc2 C tg_1865 dX10_bars_85 ?_
    refine G.lmul C dX10_bars_88 ?_
    obtain ⟨x4_16, ex4_16, h⟩ := ltv_ex h
    refine G.lstore (L' := [(4, .long x4_16), (0, .ref (eA E 67)), (6, .long x6), (8, .int x8)]) C dX10_bars_89 ex4_16 (by decide) rfl ?_
    refine G.lload C 2 dX10_bars_91 rfl ?_
    refine G.bipush (v := (16 : Int32)) C dX10_bars_93 (by decide) ?_
    refine G.aload_n C 1 dX10_bars_95 rfl rfl ?_
    refine G.getR (k := 39) C k_X10 (sm_67 hE) rfl (by decide) tg_1470 dX10_bars_96 ?_
    refine G.iload C 3 dX10_bars_99 rfl ?_
    obtain ⟨hg_17, h⟩ := gd_ex h
    refine G.aI (j := ix x8) C (sm_105 hE) hg_17 rfl dX10_bars_101 ?_
    refine G.isub C dX10_bars_102 ?_
    refine G.i2l (v := ((16 : Int32) - (M.1 105 (ix x8))).toInt64) C dX10_bars_103 rfl ?_
    refine G.lmul C dX10_bars_104 ?_
    obtain ⟨x6_18, ex6_18, h⟩ := ltv_ex h
    refine G.lstore (L' := [(6, .long x6_18), (4, .long x4_16), (0, .ref (eA E 67)), (8, .int x8)]) C dX10_bars_105 ex6_18 (by decide) rfl ?_
    obtain ⟨x8_19, ex8_19, h⟩ := ltv_ex h
    refine G.iinc (L' := [(8, .int x8_19), (6, .long x6_18), (4, .long x4_16), (0, .ref (eA E 67))]) C 3 dX10_bars_107 rfl (ex8_19.trans rfl) (by decide) rfl ?_
    refine G.goto (tgt := 74) C dX10_bars_110 (by decide) ?_
    exact G.sub [3, 2, 1, 0] rfl (hk_74 _ _ _ _  h)
def b_X10_bars_67_74 : Nat → Int64 → Int64 → Int32 → Mm → Option (Int64 × Mm)
  | 0, _, _, _, _ => none
  | n + 1, x4, x6, x8, M => bb_X10_bars_67_74 (b_X10_bars_67_74 n) x4 x6 x8 M
set_option maxHeartbeats 4000000 in
theorem g_X10_bars_67_74  {n : Nat} {x4 : Int64} {x6 : Int64} {x8 : Int32} {M : Mm} {v : Int64} {M' : Mm} (hE : Has shM (eH E)) (C : Cx RX10 cX10_bars 9 p (rmD 45) s m args meth c E) (hr : meth.sig.returnType = (some .long)) (h : b_X10_bars_67_74 n x4 x6 x8 M = some (v, M')) : G p l e (rmD 45) s m args below meth c E 9 0 0 (QR below args s E 0 0 (some (.long v)) M') 74 [(0, .ref (eA E 67)), (4, .long x4), (6, .long x6), (8, .int x8)] [] M := by
  induction n generalizing x4 x6 x8 M with
  | zero => cases h
  | succ n ih => exact gb_X10_bars_67_74 hE C hr (fun _ _ _ _ => ih)  h
def bb_X10_bars_67_40 (x1 : Int32) (x2 : Int32) (x3 : Int32) (s1 : Int32) (M : Mm) : Option (Int64 × Mm) := bd2 (f_X10_bad_67 s1 (2 : Int32) M) fun v_11 M_10 => if v_11 = 0 then (bd2 (f_X10_findOrder_67 x1 x2 x3 M_10) fun v_14 M_13 => if v_14 = 0 then (some ((-1 : Int64), M_13)) else (b_X10_bars_67_74 FU (1000 : Int64) (1 : Int64) (0 : Int32) M_13)) else (some ((0 : Int64), M_10))
set_option maxHeartbeats 4000000 in
set_option maxRecDepth 100000 in
theorem gb_X10_bars_67_40  {x1 : Int32} {x2 : Int32} {x3 : Int32} {s1 : Int32} {M : Mm} {v : Int64} {M' : Mm} (hE : Has shM (eH E)) (C : Cx RX10 cX10_bars 9 p (rmD 45) s m args meth c E) (hr : meth.sig.returnType = (some .long)) (h : bb_X10_bars_67_40 x1 x2 x3 s1 M = some (v, M')) : G p l e (rmD 45) s m args below meth c E 9 0 0 (QR below args s E 0 0 (some (.long v)) M') 40 [(0, .ref (eA E 67)), (1, .int x1), (2, .int x2), (3, .int x3)] [.int s1, .ref (eA E 67)] M := by
  unfold bb_X10_bars_67_40 at h
  refine G.iconst (v := (2 : Int32)) C dX10_bars_40 (by decide) ?_
  obtain ⟨v_11, M_10, hv_9, h⟩ := bd2_ex h
  refine G.callV (rest := []) C (s_X10_bad_67 hE  hv_9) ⟨tg_1600, tg_103, ok_X10_bad, Nat.le_of_ble_eq_true rfl, Nat.le_of_ble_eq_true rfl⟩ tg_1597 tg_1599 tg_46 (sm_67 hE) rfl rfl (Nat.le_of_ble_eq_true rfl) dX10_bars_41 ⟨Nat.le_refl 0, Nat.le_refl 0⟩ ?_
  refine G.if_eq (tgt := 49) C dX10_bars_44 (by decide) (fun hc => ?_) (fun hc => ?_)
  · have h := it_t h hc
    refine G.aload_n C 0 dX10_bars_49 rfl rfl ?_
    refine G.iload_n C 1 dX10_bars_50 rfl rfl ?_
    refine G.iload_n C 2 dX10_bars_51 rfl rfl ?_
    refine G.iload_n C 3 dX10_bars_52 rfl rfl ?_
    obtain ⟨v_14, M_13, hv_12, h⟩ := bd2_ex h
    refine G.callV (rest := []) C (s_X10_findOrder_67 hE  hv_12) ⟨tg_1848, tg_103, ok_X10_findOrder, Nat.le_of_ble_eq_true rfl, Nat.le_of_ble_eq_true rfl⟩ tg_1845 tg_1847 tg_75 (sm_67 hE) rfl rfl (Nat.le_of_ble_eq_true rfl) dX10_bars_53 ⟨Nat.le_refl 0, Nat.le_refl 0⟩ ?_
    refine G.if_ne (tgt := 63) C dX10_bars_56 (by decide) (fun hc => ?_) (fun hc => ?_)
    · have h := it_f h hc
      refine G.ldc2 C tg_1866 dX10_bars_63 ?_
      refine G.lstore (L' := [(4, .long (1000 : Int64)), (0, .ref (eA E 67)), (1, .int x1), (2, .int x2), (3, .int x3)]) C dX10_bars_66 rfl (by decide) rfl ?_
      refine G.lconst (v := (1 : Int64)) C dX10_bars_68 (by decide) ?_
      refine G.lstore (L' := [(6, .long (1 : Int64)), (4, .long (1000 : Int64)), (0, .ref (eA E 67)), (1, .int x1), (2, .int x2), (3, .int x3)]) C dX10_bars_69 rfl (by decide) rfl ?_
      refine G.iconst (v := (0 : Int32)) C dX10_bars_71 (by decide) ?_
      refine G.istore (L' := [(8, .int (0 : Int32)), (6, .long (1 : Int64)), (4, .long (1000 : Int64)), (0, .ref (eA E 67)), (1, .int x1), (2, .int x2), (3, .int x3)]) C dX10_bars_72 rfl (by decide) rfl ?_
      exact G.sub [3, 2, 1, 0] rfl (g_X10_bars_67_74 hE C hr  h)
    · have h := it_t h hc
      refine G.ldc2 C tg_1655 dX10_bars_59 ?_
      cases h
      exact G.lret C hr dX10_bars_62
  · have h := it_f h hc
    refine G.lconst (v := (0 : Int64)) C dX10_bars_47 (by decide) ?_
    cases h
    exact G.lret C hr dX10_bars_48
def bb_X10_bars_67_19 (x1 : Int32) (x2 : Int32) (x3 : Int32) (s1 : Int32) (M : Mm) : Option (Int64 × Mm) := bd2 (f_X10_bad_67 s1 (1 : Int32) M) fun v_6 M_5 => if v_6 = 0 then (bd (f_X10_isChance x2 x3) fun v_8 => if v_8 = 0 then (bb_X10_bars_67_40 x1 x2 x3 (1 : Int32) M_5) else (bb_X10_bars_67_40 x1 x2 x3 (0 : Int32) M_5)) else (some ((0 : Int64), M_5))
set_option maxHeartbeats 4000000 in
set_option maxRecDepth 100000 in
theorem gb_X10_bars_67_19  {x1 : Int32} {x2 : Int32} {x3 : Int32} {s1 : Int32} {M : Mm} {v : Int64} {M' : Mm} (hE : Has shM (eH E)) (C : Cx RX10 cX10_bars 9 p (rmD 45) s m args meth c E) (hr : meth.sig.returnType = (some .long)) (h : bb_X10_bars_67_19 x1 x2 x3 s1 M = some (v, M')) : G p l e (rmD 45) s m args below meth c E 9 0 0 (QR below args s E 0 0 (some (.long v)) M') 19 [(0, .ref (eA E 67)), (1, .int x1), (2, .int x2), (3, .int x3)] [.int s1, .ref (eA E 67)] M := by
  unfold bb_X10_bars_67_19 at h
  refine G.iconst (v := (1 : Int32)) C dX10_bars_19 (by decide) ?_
  obtain ⟨v_6, M_5, hv_4, h⟩ := bd2_ex h
  refine G.callV (rest := []) C (s_X10_bad_67 hE  hv_4) ⟨tg_1600, tg_103, ok_X10_bad, Nat.le_of_ble_eq_true rfl, Nat.le_of_ble_eq_true rfl⟩ tg_1597 tg_1599 tg_46 (sm_67 hE) rfl rfl (Nat.le_of_ble_eq_true rfl) dX10_bars_20 ⟨Nat.le_refl 0, Nat.le_refl 0⟩ ?_
  refine G.if_ne (tgt := 47) C dX10_bars_23 (by decide) (fun hc => ?_) (fun hc => ?_)
  · have h := it_f h hc
    refine G.lconst (v := (0 : Int64)) C dX10_bars_47 (by decide) ?_
    cases h
    exact G.lret C hr dX10_bars_48
  · have h := it_t h hc
    refine G.aload_n C 0 dX10_bars_26 rfl rfl ?_
    refine G.iload_n C 2 dX10_bars_27 rfl rfl ?_
    refine G.iload_n C 3 dX10_bars_28 rfl rfl ?_
    obtain ⟨v_8, hv_7, h⟩ := bd_ex h
    refine G.callS (rest := [.ref (eA E 67)]) C (s_X10_isChance  hv_7) ⟨tg_1844, tg_103, ok_X10_isChance, Nat.le_of_ble_eq_true rfl, Nat.le_of_ble_eq_true rfl⟩ tg_1842 tg_1843 rfl (Nat.le_of_ble_eq_true rfl) dX10_bars_29 ⟨Nat.le_refl 0, Nat.le_refl 0⟩ ?_
    refine G.if_ne (tgt := 39) C dX10_bars_32 (by decide) (fun hc => ?_) (fun hc => ?_)
    · have h := it_f h hc
      refine G.iconst (v := (0 : Int32)) C dX10_bars_39 (by decide) ?_
      exact G.sub [0, 1, 2, 3] rfl (gb_X10_bars_67_40 hE C hr  h)
    · have h := it_t h hc
      refine G.iconst (v := (1 : Int32)) C dX10_bars_35 (by decide) ?_
      refine G.goto (tgt := 40) C dX10_bars_36 (by decide) ?_
      exact G.sub [0, 1, 2, 3] rfl (gb_X10_bars_67_40 hE C hr  h)
def bb_X10_bars_67_0 (x1 : Int32) (x2 : Int32) (x3 : Int32) (M : Mm) : Option (Int64 × Mm) := ltv (wI M 67 0 (0 : Int32)) fun M_1 => bd (f_X10_isLetter_67 x1 M_1) fun v_3 => if v_3 = 0 then (bb_X10_bars_67_19 x1 x2 x3 (1 : Int32) M_1) else (bb_X10_bars_67_19 x1 x2 x3 (0 : Int32) M_1)
set_option maxHeartbeats 4000000 in
set_option maxRecDepth 100000 in
theorem gb_X10_bars_67_0  {x1 : Int32} {x2 : Int32} {x3 : Int32} {M : Mm} {v : Int64} {M' : Mm} (hE : Has shM (eH E)) (C : Cx RX10 cX10_bars 9 p (rmD 45) s m args meth c E) (hr : meth.sig.returnType = (some .long)) (h : bb_X10_bars_67_0 x1 x2 x3 M = some (v, M')) : G p l e (rmD 45) s m args below meth c E 9 0 0 (QR below args s E 0 0 (some (.long v)) M') 0 [(0, .ref (eA E 67)), (1, .int x1), (2, .int x2), (3, .int x3)] [] M := by
  unfold bb_X10_bars_67_0 at h
  refine G.aload_n C 0 dX10_bars_0 rfl rfl ?_
  refine G.iconst (v := (0 : Int32)) C dX10_bars_1 (by decide) ?_
  obtain ⟨M_1, eM_1, h⟩ := ltv_ex h
  refine G.putI (k := 0) C k_X10 (sm_67 hE) rfl (by decide) tg_1431 rfl rfl dX10_bars_2 eM_1 ?_
  refine G.aload_n C 0 dX10_bars_5 rfl rfl ?_
  refine G.aload_n C 0 dX10_bars_6 rfl rfl ?_
  refine G.iload_n C 1 dX10_bars_7 rfl rfl ?_
  obtain ⟨v_3, hv_2, h⟩ := bd_ex h
  refine G.callV (rest := [.ref (eA E 67)]) C (s_X10_isLetter_67 hE  hv_2) ⟨tg_1699, tg_103, ok_X10_isLetter, Nat.le_of_ble_eq_true rfl, Nat.le_of_ble_eq_true rfl⟩ tg_1696 tg_1698 tg_62 (sm_67 hE) rfl rfl (Nat.le_of_ble_eq_true rfl) dX10_bars_8 ⟨Nat.le_refl 0, Nat.le_refl 0⟩ ?_
  refine G.if_ne (tgt := 18) C dX10_bars_11 (by decide) (fun hc => ?_) (fun hc => ?_)
  · have h := it_f h hc
    refine G.iconst (v := (0 : Int32)) C dX10_bars_18 (by decide) ?_
    exact G.sub [0, 1, 2, 3] rfl (gb_X10_bars_67_19 hE C hr  h)
  · have h := it_t h hc
    refine G.iconst (v := (1 : Int32)) C dX10_bars_14 (by decide) ?_
    refine G.goto (tgt := 19) C dX10_bars_15 (by decide) ?_
    exact G.sub [0, 1, 2, 3] rfl (gb_X10_bars_67_19 hE C hr  h)
def f_X10_bars_67 (x1 : Int32) (x2 : Int32) (x3 : Int32) (M : Mm) : Option (Int64 × Mm) := bb_X10_bars_67_0 x1 x2 x3 M
theorem s_X10_bars_67 {l : Launch} {E : Ev} {x1 : Int32} {x2 : Int32} {x3 : Int32} {M : Mm} {v : Int64} {M' : Mm} (hE : Has shM (eH E)) (h : f_X10_bars_67 x1 x2 x3 M = some (v, M')) : MetA l yX10_bars cX10_bars 9 (some .long) 45 E [.ref (eA E 67), .int x1, .int x2, .int x3] M (some (.long v)) M' := by
  refine MetA.of (by decide +kernel) (Nat.le_of_ble_eq_true rfl) ?_
  intro p e s m below meth c C hr hnm
  exact G.sub [0, 1, 2, 3] rfl (gb_X10_bars_67_0 hE C hr  h)
def bb_X10_blackOf_67_0 (x1 : Int32) (x2 : Int32) (M : Mm) : Option Int32 := gd (inb x1 10) (bd (f_X10_ones (M.2 72 (ix x1))) fun v_3 => bd (f_X10_edge_67 x1 M) fun v_5 => some (((16 : Int32) * v_3) + (x2 * v_5)))
set_option maxHeartbeats 4000000 in
set_option maxRecDepth 100000 in
theorem gb_X10_blackOf_67_0  {x1 : Int32} {x2 : Int32} {M : Mm} {v : Int32} (hE : Has shM (eH E)) (C : Cx RX10 cX10_blackOf 3 p (rmD 4) s m args meth c E) (hr : meth.sig.returnType = (some .int)) (h : bb_X10_blackOf_67_0 x1 x2 M = some v) : G p l e (rmD 4) s m args below meth c E 3 0 0 (QR below args s E 0 0 (some (.int v)) M) 0 [(0, .ref (eA E 67)), (1, .int x1), (2, .int x2)] [] M := by
  unfold bb_X10_blackOf_67_0 at h
  refine G.bipush (v := (16 : Int32)) C dX10_blackOf_0 (by decide) ?_
  refine G.aload_n C 0 dX10_blackOf_2 rfl rfl ?_
  refine G.getR (k := 12) C k_X10 (sm_67 hE) rfl (by decide) tg_1443 dX10_blackOf_3 ?_
  refine G.iload_n C 1 dX10_blackOf_6 rfl rfl ?_
  obtain ⟨hg_1, h⟩ := gd_ex h
  refine G.aJ (j := ix x1) C (sm_72 hE) hg_1 rfl dX10_blackOf_7 ?_
  obtain ⟨v_3, hv_2, h⟩ := bd_ex h
  refine G.callS (rest := [.int (16 : Int32)]) C (s_X10_ones  hv_2) ⟨tg_1706, tg_103, ok_X10_ones, Nat.le_of_ble_eq_true rfl, Nat.le_of_ble_eq_true rfl⟩ tg_1704 tg_1705 rfl (Nat.le_of_ble_eq_true rfl) dX10_blackOf_8 ⟨Nat.le_refl 0, Nat.le_refl 0⟩ ?_
  refine G.imul C dX10_blackOf_11 ?_
  refine G.iload_n C 2 dX10_blackOf_12 rfl rfl ?_
  refine G.aload_n C 0 dX10_blackOf_13 rfl rfl ?_
  refine G.iload_n C 1 dX10_blackOf_14 rfl rfl ?_
  obtain ⟨v_5, hv_4, h⟩ := bd_ex h
  refine G.callV (rest := [.int x2, .int ((16 : Int32) * v_3)]) C (s_X10_edge_67 hE  hv_4) ⟨tg_1710, tg_103, ok_X10_edge, Nat.le_of_ble_eq_true rfl, Nat.le_of_ble_eq_true rfl⟩ tg_1707 tg_1709 tg_63 (sm_67 hE) rfl rfl (Nat.le_of_ble_eq_true rfl) dX10_blackOf_15 ⟨Nat.le_refl 0, Nat.le_refl 0⟩ ?_
  refine G.imul C dX10_blackOf_18 ?_
  refine G.iadd C dX10_blackOf_19 ?_
  cases h
  exact G.iret C hr dX10_blackOf_20
def f_X10_blackOf_67 (x1 : Int32) (x2 : Int32) (M : Mm) : Option Int32 := bb_X10_blackOf_67_0 x1 x2 M
theorem s_X10_blackOf_67 {l : Launch} {E : Ev} {x1 : Int32} {x2 : Int32} {M : Mm} {v : Int32} (hE : Has shM (eH E)) (h : f_X10_blackOf_67 x1 x2 M = some v) : MetA l yX10_blackOf cX10_blackOf 3 (some .int) 4 E [.ref (eA E 67), .int x1, .int x2] M (some (.int v)) M := by
  refine MetA.of (by decide +kernel) (Nat.le_of_ble_eq_true rfl) ?_
  intro p e s m below meth c C hr hnm
  exact G.sub [0, 1, 2] rfl (gb_X10_blackOf_67_0 hE C hr  h)
def bb_X10_black_67_42 (x1 : Int32) (x2 : Int32) (s1 : Int32) (M : Mm) : Option (Int32 × Mm) := bd2 (f_X10_bad_67 s1 (2 : Int32) M) fun v_11 M_10 => if v_11 = 0 then (gd (inb x2 10) (bd (f_X10_blackOf_67 x1 (M_10.1 90 (ix x2)) M_10) fun v_14 => some (v_14, M_10))) else (some ((0 : Int32), M_10))
set_option maxHeartbeats 4000000 in
set_option maxRecDepth 100000 in
theorem gb_X10_black_67_42  {x1 : Int32} {x2 : Int32} {s1 : Int32} {M : Mm} {v : Int32} {M' : Mm} (hE : Has shM (eH E)) (C : Cx RX10 cX10_black 3 p (rmD 5) s m args meth c E) (hr : meth.sig.returnType = (some .int)) (h : bb_X10_black_67_42 x1 x2 s1 M = some (v, M')) : G p l e (rmD 5) s m args below meth c E 3 0 0 (QR below args s E 0 0 (some (.int v)) M') 42 [(0, .ref (eA E 67)), (1, .int x1), (2, .int x2)] [.int s1, .ref (eA E 67)] M := by
  unfold bb_X10_black_67_42 at h
  refine G.iconst (v := (2 : Int32)) C dX10_black_42 (by decide) ?_
  obtain ⟨v_11, M_10, hv_9, h⟩ := bd2_ex h
  refine G.callV (rest := []) C (s_X10_bad_67 hE  hv_9) ⟨tg_1600, tg_103, ok_X10_bad, Nat.le_of_ble_eq_true rfl, Nat.le_of_ble_eq_true rfl⟩ tg_1597 tg_1599 tg_46 (sm_67 hE) rfl rfl (Nat.le_of_ble_eq_true rfl) dX10_black_43 ⟨Nat.le_refl 0, Nat.le_refl 0⟩ ?_
  refine G.if_eq (tgt := 51) C dX10_black_46 (by decide) (fun hc => ?_) (fun hc => ?_)
  · have h := it_t h hc
    refine G.aload_n C 0 dX10_black_51 rfl rfl ?_
    refine G.iload_n C 1 dX10_black_52 rfl rfl ?_
    refine G.aload_n C 0 dX10_black_53 rfl rfl ?_
    refine G.getR (k := 18) C k_X10 (sm_67 hE) rfl (by decide) tg_1449 dX10_black_54 ?_
    refine G.iload_n C 2 dX10_black_57 rfl rfl ?_
    obtain ⟨hg_12, h⟩ := gd_ex h
    refine G.aI (j := ix x2) C (sm_90 hE) hg_12 rfl dX10_black_58 ?_
    obtain ⟨v_14, hv_13, h⟩ := bd_ex h
    refine G.callV (rest := []) C (s_X10_blackOf_67 hE  hv_13) ⟨tg_1882, tg_103, ok_X10_blackOf, Nat.le_of_ble_eq_true rfl, Nat.le_of_ble_eq_true rfl⟩ tg_1879 tg_1881 tg_80 (sm_67 hE) rfl rfl (Nat.le_of_ble_eq_true rfl) dX10_black_59 ⟨Nat.le_refl 0, Nat.le_refl 0⟩ ?_
    cases h
    exact G.iret C hr dX10_black_62
  · have h := it_f h hc
    refine G.iconst (v := (0 : Int32)) C dX10_black_49 (by decide) ?_
    cases h
    exact G.iret C hr dX10_black_50
def bb_X10_black_67_19 (x1 : Int32) (x2 : Int32) (s1 : Int32) (M : Mm) : Option (Int32 × Mm) := bd2 (f_X10_bad_67 s1 (1 : Int32) M) fun v_6 M_5 => if v_6 = 0 then (bd (f_X10_in x2 (1 : Int32) (9 : Int32)) fun v_8 => if v_8 = 0 then (bb_X10_black_67_42 x1 x2 (1 : Int32) M_5) else (bb_X10_black_67_42 x1 x2 (0 : Int32) M_5)) else (some ((0 : Int32), M_5))
set_option maxHeartbeats 4000000 in
set_option maxRecDepth 100000 in
theorem gb_X10_black_67_19  {x1 : Int32} {x2 : Int32} {s1 : Int32} {M : Mm} {v : Int32} {M' : Mm} (hE : Has shM (eH E)) (C : Cx RX10 cX10_black 3 p (rmD 5) s m args meth c E) (hr : meth.sig.returnType = (some .int)) (h : bb_X10_black_67_19 x1 x2 s1 M = some (v, M')) : G p l e (rmD 5) s m args below meth c E 3 0 0 (QR below args s E 0 0 (some (.int v)) M') 19 [(0, .ref (eA E 67)), (1, .int x1), (2, .int x2)] [.int s1, .ref (eA E 67)] M := by
  unfold bb_X10_black_67_19 at h
  refine G.iconst (v := (1 : Int32)) C dX10_black_19 (by decide) ?_
  obtain ⟨v_6, M_5, hv_4, h⟩ := bd2_ex h
  refine G.callV (rest := []) C (s_X10_bad_67 hE  hv_4) ⟨tg_1600, tg_103, ok_X10_bad, Nat.le_of_ble_eq_true rfl, Nat.le_of_ble_eq_true rfl⟩ tg_1597 tg_1599 tg_46 (sm_67 hE) rfl rfl (Nat.le_of_ble_eq_true rfl) dX10_black_20 ⟨Nat.le_refl 0, Nat.le_refl 0⟩ ?_
  refine G.if_ne (tgt := 49) C dX10_black_23 (by decide) (fun hc => ?_) (fun hc => ?_)
  · have h := it_f h hc
    refine G.iconst (v := (0 : Int32)) C dX10_black_49 (by decide) ?_
    cases h
    exact G.iret C hr dX10_black_50
  · have h := it_t h hc
    refine G.aload_n C 0 dX10_black_26 rfl rfl ?_
    refine G.iload_n C 2 dX10_black_27 rfl rfl ?_
    refine G.iconst (v := (1 : Int32)) C dX10_black_28 (by decide) ?_
    refine G.bipush (v := (9 : Int32)) C dX10_black_29 (by decide) ?_
    obtain ⟨v_8, hv_7, h⟩ := bd_ex h
    refine G.callS (rest := [.ref (eA E 67)]) C (s_X10_in  hv_7) ⟨tg_1596, tg_103, ok_X10_in, Nat.le_of_ble_eq_true rfl, Nat.le_of_ble_eq_true rfl⟩ tg_1594 tg_1595 rfl (Nat.le_of_ble_eq_true rfl) dX10_black_31 ⟨Nat.le_refl 0, Nat.le_refl 0⟩ ?_
    refine G.if_ne (tgt := 41) C dX10_black_34 (by decide) (fun hc => ?_) (fun hc => ?_)
    · have h := it_f h hc
      refine G.iconst (v := (0 : Int32)) C dX10_black_41 (by decide) ?_
      exact G.sub [0, 1, 2] rfl (gb_X10_black_67_42 hE C hr  h)
    · have h := it_t h hc
      refine G.iconst (v := (1 : Int32)) C dX10_black_37 (by decide) ?_
      refine G.goto (tgt := 42) C dX10_black_38 (by decide) ?_
      exact G.sub [0, 1, 2] rfl (gb_X10_black_67_42 hE C hr  h)
def bb_X10_black_67_0 (x1 : Int32) (x2 : Int32) (M : Mm) : Option (Int32 × Mm) := ltv (wI M 67 0 (0 : Int32)) fun M_1 => bd (f_X10_isLetter_67 x1 M_1) fun v_3 => if v_3 = 0 then (bb_X10_black_67_19 x1 x2 (1 : Int32) M_1) else (bb_X10_black_67_19 x1 x2 (0 : Int32) M_1)
set_option maxHeartbeats 4000000 in
set_option maxRecDepth 100000 in
theorem gb_X10_black_67_0  {x1 : Int32} {x2 : Int32} {M : Mm} {v : Int32} {M' : Mm} (hE : Has shM (eH E)) (C : Cx RX10 cX10_black 3 p (rmD 5) s m args meth c E) (hr : meth.sig.returnType = (some .int)) (h : bb_X10_black_67_0 x1 x2 M = some (v, M')) : G p l e (rmD 5) s m args below meth c E 3 0 0 (QR below args s E 0 0 (some (.int v)) M') 0 [(0, .ref (eA E 67)), (1, .int x1), (2, .int x2)] [] M := by
  unfold bb_X10_black_67_0 at h
  refine G.aload_n C 0 dX10_black_0 rfl rfl ?_
  refine G.iconst (v := (0 : Int32)) C dX10_black_1 (by decide) ?_
  obtain ⟨M_1, eM_1, h⟩ := ltv_ex h
  refine G.putI (k := 0) C k_X10 (sm_67 hE) rfl (by decide) tg_1431 rfl rfl dX10_black_2 eM_1 ?_
  refine G.aload_n C 0 dX10_black_5 rfl rfl ?_
  refine G.aload_n C 0 dX10_black_6 rfl rfl ?_
  refine G.iload_n C 1 dX10_black_7 rfl rfl ?_
  obtain ⟨v_3, hv_2, h⟩ := bd_ex h
  refine G.callV (rest := [.ref (eA E 67)]) C (s_X10_isLetter_67 hE  hv_2) ⟨tg_1699, tg_103, ok_X10_isLetter, Nat.le_of_ble_eq_true rfl, Nat.le_of_ble_eq_true rfl⟩ tg_1696 tg_1698 tg_62 (sm_67 hE) rfl rfl (Nat.le_of_ble_eq_true rfl) dX10_black_8 ⟨Nat.le_refl 0, Nat.le_refl 0⟩ ?_
  refine G.if_ne (tgt := 18) C dX10_black_11 (by decide) (fun hc => ?_) (fun hc => ?_)
  · have h := it_f h hc
    refine G.iconst (v := (0 : Int32)) C dX10_black_18 (by decide) ?_
    exact G.sub [0, 1, 2] rfl (gb_X10_black_67_19 hE C hr  h)
  · have h := it_t h hc
    refine G.iconst (v := (1 : Int32)) C dX10_black_14 (by decide) ?_
    refine G.goto (tgt := 19) C dX10_black_15 (by decide) ?_
    exact G.sub [0, 1, 2] rfl (gb_X10_black_67_19 hE C hr  h)
def f_X10_black_67 (x1 : Int32) (x2 : Int32) (M : Mm) : Option (Int32 × Mm) := bb_X10_black_67_0 x1 x2 M
theorem s_X10_black_67 {l : Launch} {E : Ev} {x1 : Int32} {x2 : Int32} {M : Mm} {v : Int32} {M' : Mm} (hE : Has shM (eH E)) (h : f_X10_black_67 x1 x2 M = some (v, M')) : MetA l yX10_black cX10_black 3 (some .int) 5 E [.ref (eA E 67), .int x1, .int x2] M (some (.int v)) M' := by
  refine MetA.of (by decide +kernel) (Nat.le_of_ble_eq_true rfl) ?_
  intro p e s m below meth c C hr hnm
  exact G.sub [0, 1, 2] rfl (gb_X10_black_67_0 hE C hr  h)
def bb_X10_isRoom_0 (x0 : Int32) (x1 : Int32) : Option Int32 := bd (f_X10_in x0 (1 : Int32) (9 : Int32)) fun v_2 => if v_2 = 0 then (some (0 : Int32)) else (bd (f_X10_in x1 (0 : Int32) (9765624 : Int32)) fun v_4 => if v_4 = 0 then (some (0 : Int32)) else (some (1 : Int32)))
set_option maxHeartbeats 4000000 in
set_option maxRecDepth 100000 in
theorem gb_X10_isRoom_0 {M : Mm}  {x0 : Int32} {x1 : Int32} {v : Int32} (C : Cx RX10 cX10_isRoom 2 p (rmD 2) s m args meth c E) (hr : meth.sig.returnType = (some .boolean)) (h : bb_X10_isRoom_0 x0 x1 = some v) : G p l e (rmD 2) s m args below meth c E 2 0 0 (QR below args s E 0 0 (some (.int v)) M) 0 [(0, .int x0), (1, .int x1)] [] M := by
  unfold bb_X10_isRoom_0 at h
  refine G.iload_n C 0 dX10_isRoom_0 rfl rfl ?_
  refine G.iconst (v := (1 : Int32)) C dX10_isRoom_1 (by decide) ?_
  refine G.bipush (v := (9 : Int32)) C dX10_isRoom_2 (by decide) ?_
  obtain ⟨v_2, hv_1, h⟩ := bd_ex h
  refine G.callS (rest := []) C (s_X10_in  hv_1) ⟨tg_1596, tg_103, ok_X10_in, Nat.le_of_ble_eq_true rfl, Nat.le_of_ble_eq_true rfl⟩ tg_1594 tg_1595 rfl (Nat.le_of_ble_eq_true rfl) dX10_isRoom_4 ⟨Nat.le_refl 0, Nat.le_refl 0⟩ ?_
  refine G.if_eq (tgt := 25) C dX10_isRoom_7 (by decide) (fun hc => ?_) (fun hc => ?_)
  · have h := it_t h hc
    refine G.iconst (v := (0 : Int32)) C dX10_isRoom_25 (by decide) ?_
    cases h
    exact G.zret C hr rfl dX10_isRoom_26
  · have h := it_f h hc
    refine G.iload_n C 1 dX10_isRoom_10 rfl rfl ?_
    refine G.iconst (v := (0 : Int32)) C dX10_isRoom_11 (by decide) ?_
    refine G.ldcw C tg_1890 dX10_isRoom_12 ?_
    obtain ⟨v_4, hv_3, h⟩ := bd_ex h
    refine G.callS (rest := []) C (s_X10_in  hv_3) ⟨tg_1596, tg_103, ok_X10_in, Nat.le_of_ble_eq_true rfl, Nat.le_of_ble_eq_true rfl⟩ tg_1594 tg_1595 rfl (Nat.le_of_ble_eq_true rfl) dX10_isRoom_15 ⟨Nat.le_refl 0, Nat.le_refl 0⟩ ?_
    refine G.if_eq (tgt := 25) C dX10_isRoom_18 (by decide) (fun hc => ?_) (fun hc => ?_)
    · have h := it_t h hc
      refine G.iconst (v := (0 : Int32)) C dX10_isRoom_25 (by decide) ?_
      cases h
      exact G.zret C hr rfl dX10_isRoom_26
    · have h := it_f h hc
      refine G.iconst (v := (1 : Int32)) C dX10_isRoom_21 (by decide) ?_
      refine G.goto (tgt := 26) C dX10_isRoom_22 (by decide) ?_
      cases h
      exact G.zret C hr rfl dX10_isRoom_26
def f_X10_isRoom (x0 : Int32) (x1 : Int32) : Option Int32 := bb_X10_isRoom_0 x0 x1
theorem s_X10_isRoom {l : Launch} {E : Ev} {x0 : Int32} {x1 : Int32} {M : Mm} {v : Int32} (h : f_X10_isRoom x0 x1 = some v) : MetA l yX10_isRoom cX10_isRoom 2 (some .boolean) 2 E [.int x0, .int x1] M (some (.int v)) M := by
  refine MetA.of (by decide +kernel) (Nat.le_of_ble_eq_true rfl) ?_
  intro p e s m below meth c C hr hnm
  exact G.sub [0, 1] rfl (gb_X10_isRoom_0 C hr  h)
def bb_X10_layBlacks_67_2 (k_2 : Int32 → Int32 → Mm → Option Mm) (x1 : Int32) (x2 : Int32) (M : Mm) : Option Mm := if (M.1 70 0) ≤ x2 then (some M) else (bd (f_X10_blackOf_67 x2 x1 M) fun v_2 => gd (inb x2 10) (ltv (wI M 109 (ix x2) v_2) fun M_4 => bd (f_X10_broad_67 x2 M_4) fun v_6 => gd (inb x2 10) (ltv (wI M_4 110 (ix x2) v_6) fun M_8 => ltv (x2 + (1 : Int32)) fun x2_9 => k_2 x1 x2_9 M_8)))
set_option maxHeartbeats 4000000 in
set_option maxRecDepth 100000 in
theorem gb_X10_layBlacks_67_2  {k_2 : Int32 → Int32 → Mm → Option Mm} {x1 : Int32} {x2 : Int32} {M : Mm} {M' : Mm} (hE : Has shM (eH E)) (C : Cx RX10 cX10_layBlacks 3 p (rmD 5) s m args meth c E) (hr : meth.sig.returnType = none) (hk_2 : ∀ (x1 : Int32) (x2 : Int32) (M : Mm), k_2 x1 x2 M = some M' → G p l e (rmD 5) s m args below meth c E 3 0 0 (QR below args s E 0 0 none M') 2 [(0, .ref (eA E 67)), (1, .int x1), (2, .int x2)] [] M) (h : bb_X10_layBlacks_67_2 k_2 x1 x2 M = some M') : G p l e (rmD 5) s m args below meth c E 3 0 0 (QR below args s E 0 0 none M') 2 [(0, .ref (eA E 67)), (1, .int x1), (2, .int x2)] [] M := by
  unfold bb_X10_layBlacks_67_2 at h
  refine G.iload_n C 2 dX10_layBlacks_2 rfl rfl ?_
  refine G.aload_n C 0 dX10_layBlacks_3 rfl rfl ?_
  refine G.getR (k := 10) C k_X10 (sm_67 hE) rfl (by decide) tg_1441 dX10_layBlacks_4 ?_
  refine G.iconst (v := (0 : Int32)) C dX10_layBlacks_7 (by decide) ?_
  refine G.aI (j := 0) C (sm_70 hE) (by decide) (by decide) dX10_layBlacks_8 ?_
  refine G.icmp_ge (tgt := 41) C dX10_layBlacks_9 (by decide) (fun hc => ?_) (fun hc => ?_)
  · have h := it_t h hc
    cases h
    exact G.vret C hr dX10_layBlacks_41
  · have h := it_f h hc
    refine G.aload_n C 0 dX10_layBlacks_12 rfl rfl ?_
    refine G.getR (k := 47) C k_X10 (sm_67 hE) rfl (by decide) tg_1478 dX10_layBlacks_13 ?_
    refine G.iload_n C 2 dX10_layBlacks_16 rfl rfl ?_
    refine G.aload_n C 0 dX10_layBlacks_17 rfl rfl ?_
    refine G.iload_n C 2 dX10_layBlacks_18 rfl rfl ?_
    refine G.iload_n C 1 dX10_layBlacks_19 rfl rfl ?_
    obtain ⟨v_2, hv_1, h⟩ := bd_ex h
    refine G.callV (rest := [.int x2, .ref (eA E 109)]) C (s_X10_blackOf_67 hE  hv_1) ⟨tg_1882, tg_103, ok_X10_blackOf, Nat.le_of_ble_eq_true rfl, Nat.le_of_ble_eq_true rfl⟩ tg_1879 tg_1881 tg_80 (sm_67 hE) rfl rfl (Nat.le_of_ble_eq_true rfl) dX10_layBlacks_20 ⟨Nat.le_refl 0, Nat.le_refl 0⟩ ?_
    obtain ⟨hg_3, h⟩ := gd_ex h
    obtain ⟨M_4, eM_4, h⟩ := ltv_ex h
    refine G.sI (j := (ix x2)) C (sm_109 hE) hg_3 rfl dX10_layBlacks_23 eM_4 ?_
    refine G.aload_n C 0 dX10_layBlacks_24 rfl rfl ?_
    refine G.getR (k := 48) C k_X10 (sm_67 hE) rfl (by decide) tg_1479 dX10_layBlacks_25 ?_
    refine G.iload_n C 2 dX10_layBlacks_28 rfl rfl ?_
    refine G.aload_n C 0 dX10_layBlacks_29 rfl rfl ?_
    refine G.iload_n C 2 dX10_layBlacks_30 rfl rfl ?_
    obtain ⟨v_6, hv_5, h⟩ := bd_ex h
    refine G.callV (rest := [.int x2, .ref (eA E 110)]) C (s_X10_broad_67 hE  hv_5) ⟨tg_1714, tg_103, ok_X10_broad, Nat.le_of_ble_eq_true rfl, Nat.le_of_ble_eq_true rfl⟩ tg_1711 tg_1713 tg_64 (sm_67 hE) rfl rfl (Nat.le_of_ble_eq_true rfl) dX10_layBlacks_31 ⟨Nat.le_refl 0, Nat.le_refl 0⟩ ?_
    obtain ⟨hg_7, h⟩ := gd_ex h
    obtain ⟨M_8, eM_8, h⟩ := ltv_ex h
    refine G.sI (j := (ix x2)) C (sm_110 hE) hg_7 rfl dX10_layBlacks_34 eM_8 ?_
    obtain ⟨x2_9, ex2_9, h⟩ := ltv_ex h
    refine G.iinc (L' := [(2, .int x2_9), (0, .ref (eA E 67)), (1, .int x1)]) C 2 dX10_layBlacks_35 rfl (ex2_9.trans rfl) (by decide) rfl ?_
    refine G.goto (tgt := 2) C dX10_layBlacks_38 (by decide) ?_
    exact G.sub [1, 2, 0] rfl (hk_2 _ _ _  h)
def b_X10_layBlacks_67_2 : Nat → Int32 → Int32 → Mm → Option Mm
  | 0, _, _, _ => none
  | n + 1, x1, x2, M => bb_X10_layBlacks_67_2 (b_X10_layBlacks_67_2 n) x1 x2 M
set_option maxHeartbeats 4000000 in
theorem g_X10_layBlacks_67_2  {n : Nat} {x1 : Int32} {x2 : Int32} {M : Mm} {M' : Mm} (hE : Has shM (eH E)) (C : Cx RX10 cX10_layBlacks 3 p (rmD 5) s m args meth c E) (hr : meth.sig.returnType = none) (h : b_X10_layBlacks_67_2 n x1 x2 M = some M') : G p l e (rmD 5) s m args below meth c E 3 0 0 (QR below args s E 0 0 none M') 2 [(0, .ref (eA E 67)), (1, .int x1), (2, .int x2)] [] M := by
  induction n generalizing x1 x2 M with
  | zero => cases h
  | succ n ih => exact gb_X10_layBlacks_67_2 hE C hr (fun _ _ _ => ih)  h
def bb_X10_layBlacks_67_0 (x1 : Int32) (M : Mm) : Option Mm := b_X10_layBlacks_67_2 FU x1 (0 : Int32) M
set_option maxHeartbeats 4000000 in
set_option maxRecDepth 100000 in
theorem gb_X10_layBlacks_67_0  {x1 : Int32} {M : Mm} {M' : Mm} (hE : Has shM (eH E)) (C : Cx RX10 cX10_layBlacks 3 p (rmD 5) s m args meth c E) (hr : meth.sig.returnType = none) (h : bb_X10_layBlacks_67_0 x1 M = some M') : G p l e (rmD 5) s m args below meth c E 3 0 0 (QR below args s E 0 0 none M') 0 [(0, .ref (eA E 67)), (1, .int x1)] [] M := by
  unfold bb_X10_layBlacks_67_0 at h
  refine G.iconst (v := (0 : Int32)) C dX10_layBlacks_0 (by decide) ?_
  refine G.istore_n (L' := [(2, .int (0 : Int32)), (0, .ref (eA E 67)), (1, .int x1)]) C dX10_layBlacks_1 rfl rfl (by decide) rfl ?_
  exact G.sub [1, 2, 0] rfl (g_X10_layBlacks_67_2 hE C hr  h)
def f_X10_layBlacks_67 (x1 : Int32) (M : Mm) : Option Mm := bb_X10_layBlacks_67_0 x1 M
theorem s_X10_layBlacks_67 {l : Launch} {E : Ev} {x1 : Int32} {M : Mm} {M' : Mm} (hE : Has shM (eH E)) (h : f_X10_layBlacks_67 x1 M = some M') : MetA l yX10_layBlacks cX10_layBlacks 3 none 5 E [.ref (eA E 67), .int x1] M none M' := by
  refine MetA.of (by decide +kernel) (Nat.le_of_ble_eq_true rfl) ?_
  intro p e s m below meth c C hr hnm
  exact G.sub [0, 1] rfl (gb_X10_layBlacks_67_0 hE C hr  h)
def bb_X10_roomOf_4 (k_4 : Int32 → Int32 → Int32 → Option Int32) (x1 : Int32) (x2 : Int32) (x3 : Int32) : Option Int32 := if x1 ≤ x3 then (some (rmI x2 (5 : Int32))) else (ltv (x2 / (5 : Int32)) fun x2_1 => ltv (x3 + (1 : Int32)) fun x3_2 => k_4 x1 x2_1 x3_2)
set_option maxHeartbeats 4000000 in
set_option maxRecDepth 100000 in
theorem gb_X10_roomOf_4 {M : Mm}  {k_4 : Int32 → Int32 → Int32 → Option Int32} {x1 : Int32} {x2 : Int32} {x3 : Int32} {v : Int32} (C : Cx RX10 cX10_roomOf 4 p (rmD 1) s m args meth c E) (hr : meth.sig.returnType = (some .int)) (hk_4 : ∀ (x1 : Int32) (x2 : Int32) (x3 : Int32), k_4 x1 x2 x3 = some v → G p l e (rmD 1) s m args below meth c E 4 0 0 (QR below args s E 0 0 (some (.int v)) M) 4 [(1, .int x1), (2, .int x2), (3, .int x3)] [] M) (h : bb_X10_roomOf_4 k_4 x1 x2 x3 = some v) : G p l e (rmD 1) s m args below meth c E 4 0 0 (QR below args s E 0 0 (some (.int v)) M) 4 [(1, .int x1), (2, .int x2), (3, .int x3)] [] M := by
  unfold bb_X10_roomOf_4 at h
  refine G.iload_n C 2 dX10_roomOf_4 rfl rfl ?_
  refine G.iload_n C 0 dX10_roomOf_5 rfl rfl ?_
  refine G.icmp_ge (tgt := 19) C dX10_roomOf_6 (by decide) (fun hc => ?_) (fun hc => ?_)
  · have h := it_t h hc
    refine G.iload_n C 1 dX10_roomOf_19 rfl rfl ?_
    refine G.iconst (v := (5 : Int32)) C dX10_roomOf_20 (by decide) ?_
    refine G.irm C dX10_roomOf_21 (by decide) ?_
    cases h
    exact G.iret C hr dX10_roomOf_22
  · have h := it_f h hc
    refine G.iload_n C 1 dX10_roomOf_9 rfl rfl ?_
    refine G.iconst (v := (5 : Int32)) C dX10_roomOf_10 (by decide) ?_
    refine G.idiv C dX10_roomOf_11 (by decide) ?_
    obtain ⟨x2_1, ex2_1, h⟩ := ltv_ex h
    refine G.istore_n (L' := [(2, .int x2_1), (1, .int x1), (3, .int x3)]) C dX10_roomOf_12 rfl ex2_1 (by decide) rfl ?_
    obtain ⟨x3_2, ex3_2, h⟩ := ltv_ex h
    refine G.iinc (L' := [(3, .int x3_2), (2, .int x2_1), (1, .int x1)]) C 2 dX10_roomOf_13 rfl (ex3_2.trans rfl) (by decide) rfl ?_
    refine G.goto (tgt := 4) C dX10_roomOf_16 (by decide) ?_
    exact G.sub [2, 1, 0] rfl (hk_4 _ _ _  h)
def b_X10_roomOf_4 : Nat → Int32 → Int32 → Int32 → Option Int32
  | 0, _, _, _ => none
  | n + 1, x1, x2, x3 => bb_X10_roomOf_4 (b_X10_roomOf_4 n) x1 x2 x3
set_option maxHeartbeats 4000000 in
theorem g_X10_roomOf_4 {M : Mm}  {n : Nat} {x1 : Int32} {x2 : Int32} {x3 : Int32} {v : Int32} (C : Cx RX10 cX10_roomOf 4 p (rmD 1) s m args meth c E) (hr : meth.sig.returnType = (some .int)) (h : b_X10_roomOf_4 n x1 x2 x3 = some v) : G p l e (rmD 1) s m args below meth c E 4 0 0 (QR below args s E 0 0 (some (.int v)) M) 4 [(1, .int x1), (2, .int x2), (3, .int x3)] [] M := by
  induction n generalizing x1 x2 x3 with
  | zero => cases h
  | succ n ih => exact gb_X10_roomOf_4 C hr (fun _ _ _ => ih)  h
def bb_X10_roomOf_0 (x0 : Int32) (x1 : Int32) : Option Int32 := b_X10_roomOf_4 FU x1 x0 (0 : Int32)
set_option maxHeartbeats 4000000 in
set_option maxRecDepth 100000 in
theorem gb_X10_roomOf_0 {M : Mm}  {x0 : Int32} {x1 : Int32} {v : Int32} (C : Cx RX10 cX10_roomOf 4 p (rmD 1) s m args meth c E) (hr : meth.sig.returnType = (some .int)) (h : bb_X10_roomOf_0 x0 x1 = some v) : G p l e (rmD 1) s m args below meth c E 4 0 0 (QR below args s E 0 0 (some (.int v)) M) 0 [(0, .int x0), (1, .int x1)] [] M := by
  unfold bb_X10_roomOf_0 at h
  refine G.iload_n C 0 dX10_roomOf_0 rfl rfl ?_
  refine G.istore_n (L' := [(2, .int x0), (0, .int x0), (1, .int x1)]) C dX10_roomOf_1 rfl rfl (by decide) rfl ?_
  refine G.iconst (v := (0 : Int32)) C dX10_roomOf_2 (by decide) ?_
  refine G.istore_n (L' := [(3, .int (0 : Int32)), (2, .int x0), (0, .int x0), (1, .int x1)]) C dX10_roomOf_3 rfl rfl (by decide) rfl ?_
  exact G.sub [3, 1, 0] rfl (g_X10_roomOf_4 C hr  h)
def f_X10_roomOf (x0 : Int32) (x1 : Int32) : Option Int32 := bb_X10_roomOf_0 x0 x1
theorem s_X10_roomOf {l : Launch} {E : Ev} {x0 : Int32} {x1 : Int32} {M : Mm} {v : Int32} (h : f_X10_roomOf x0 x1 = some v) : MetA l yX10_roomOf cX10_roomOf 4 (some .int) 1 E [.int x0, .int x1] M (some (.int v)) M := by
  refine MetA.of (by decide +kernel) (Nat.le_of_ble_eq_true rfl) ?_
  intro p e s m below meth c C hr hnm
  exact G.sub [0, 1] rfl (gb_X10_roomOf_0 C hr  h)
def bb_X10_colourOf_67_8 (k_8 : Int32 → Int32 → Int32 → Int32 → Int32 → Mm → Option Int32) (x1 : Int32) (x2 : Int32) (x3 : Int32) (x4 : Int32) (x5 : Int32) (M : Mm) : Option Int32 := gd (inb x1 6) (if (M.1 88 (ix x1)) ≤ x5 then (if x4 = 0 then (some (0 : Int32)) else (gd (decide (¬ ((16 : Int32) * x4) = 0)) (some (((1000 : Int32) * x3) / ((16 : Int32) * x4))))) else (gd (inb x1 6) (gd (inb x5 8) (gd (inb (M.1 (81 + ix x1) (ix x5)) 10) (ltv (x3 + (M.1 109 (ix (M.1 (81 + ix x1) (ix x5))))) fun x3_7 => gd (inb x1 6) (gd (inb x5 8) (gd (inb (M.1 (81 + ix x1) (ix x5)) 10) (gd (inb x1 6) (gd (inb x5 8) (bd (f_X10_roomOf x2 (M.1 (81 + ix x1) (ix x5))) fun v_16 => ltv (x4 + ((M.1 110 (ix (M.1 (81 + ix x1) (ix x5)))) + v_16)) fun x4_17 => ltv (x5 + (1 : Int32)) fun x5_18 => k_8 x1 x2 x3_7 x4_17 x5_18 M))))))))))
set_option maxHeartbeats 4000000 in
set_option maxRecDepth 100000 in
theorem gb_X10_colourOf_67_8  {k_8 : Int32 → Int32 → Int32 → Int32 → Int32 → Mm → Option Int32} {x1 : Int32} {x2 : Int32} {x3 : Int32} {x4 : Int32} {x5 : Int32} {M : Mm} {v : Int32} (hE : Has shM (eH E)) (C : Cx RX10 cX10_colourOf 6 p (rmD 2) s m args meth c E) (hr : meth.sig.returnType = (some .int)) (hk_8 : ∀ (x1 : Int32) (x2 : Int32) (x3 : Int32) (x4 : Int32) (x5 : Int32) (M : Mm), k_8 x1 x2 x3 x4 x5 M = some v → G p l e (rmD 2) s m args below meth c E 6 0 0 (QR below args s E 0 0 (some (.int v)) M) 8 [(0, .ref (eA E 67)), (1, .int x1), (2, .int x2), (3, .int x3), (4, .int x4), (5, .int x5)] [] M) (h : bb_X10_colourOf_67_8 k_8 x1 x2 x3 x4 x5 M = some v) : G p l e (rmD 2) s m args below meth c E 6 0 0 (QR below args s E 0 0 (some (.int v)) M) 8 [(0, .ref (eA E 67)), (1, .int x1), (2, .int x2), (3, .int x3), (4, .int x4), (5, .int x5)] [] M := by
  unfold bb_X10_colourOf_67_8 at h
  refine G.iload C 5 dX10_colourOf_8 rfl ?_
  refine G.aload_n C 0 dX10_colourOf_10 rfl rfl ?_
  refine G.getR (k := 16) C k_X10 (sm_67 hE) rfl (by decide) tg_1447 dX10_colourOf_11 ?_
  refine G.iload_n C 1 dX10_colourOf_14 rfl rfl ?_
  obtain ⟨hg_1, h⟩ := gd_ex h
  refine G.aI (j := ix x1) C (sm_88 hE) hg_1 rfl dX10_colourOf_15 ?_
  refine G.icmp_ge (tgt := 75) C dX10_colourOf_16 (by decide) (fun hc => ?_) (fun hc => ?_)
  · have h := it_t h hc
    refine G.iload C 4 dX10_colourOf_75 rfl ?_
    refine G.if_ne (tgt := 84) C dX10_colourOf_77 (by decide) (fun hc => ?_) (fun hc => ?_)
    · have h := it_f h hc
      refine G.sipush (v := (1000 : Int32)) C dX10_colourOf_84 (by decide) ?_
      refine G.iload_n C 3 dX10_colourOf_87 rfl rfl ?_
      refine G.imul C dX10_colourOf_88 ?_
      refine G.bipush (v := (16 : Int32)) C dX10_colourOf_89 (by decide) ?_
      refine G.iload C 4 dX10_colourOf_91 rfl ?_
      refine G.imul C dX10_colourOf_93 ?_
      obtain ⟨hn_2, h⟩ := gd_ex h
      refine G.idiv C dX10_colourOf_94 (of_decide_eq_true hn_2) ?_
      cases h
      exact G.iret C hr dX10_colourOf_95
    · have h := it_t h hc
      refine G.iconst (v := (0 : Int32)) C dX10_colourOf_80 (by decide) ?_
      refine G.goto (tgt := 95) C dX10_colourOf_81 (by decide) ?_
      cases h
      exact G.iret C hr dX10_colourOf_95
  · have h := it_f h hc
    refine G.iload_n C 3 dX10_colourOf_19 rfl rfl ?_
    refine G.aload_n C 0 dX10_colourOf_20 rfl rfl ?_
    refine G.getR (k := 47) C k_X10 (sm_67 hE) rfl (by decide) tg_1478 dX10_colourOf_21 ?_
    refine G.aload_n C 0 dX10_colourOf_24 rfl rfl ?_
    refine G.getR (k := 14) C k_X10 (sm_67 hE) rfl (by decide) tg_1445 dX10_colourOf_25 ?_
    refine G.iload_n C 1 dX10_colourOf_28 rfl rfl ?_
    obtain ⟨hg_3, h⟩ := gd_ex h
    refine aald_q (k := 1) (t := 81 + ix x1) (ty := .array .int) C (sm_80 hE) rfl rfl hg_3 (rowE_80 hg_3) dX10_colourOf_29 ?_
    have hq_4 := rowS_80 hE hg_3
    refine G.iload C 5 dX10_colourOf_30 rfl ?_
    obtain ⟨hg_5, h⟩ := gd_ex h
    refine G.aI (j := ix x5) C (hq_4) hg_5 rfl dX10_colourOf_32 ?_
    obtain ⟨hg_6, h⟩ := gd_ex h
    refine G.aI (j := ix (M.1 (81 + ix x1) (ix x5))) C (sm_109 hE) hg_6 rfl dX10_colourOf_33 ?_
    refine G.iadd C dX10_colourOf_34 ?_
    obtain ⟨x3_7, ex3_7, h⟩ := ltv_ex h
    refine G.istore_n (L' := [(3, .int x3_7), (0, .ref (eA E 67)), (1, .int x1), (2, .int x2), (4, .int x4), (5, .int x5)]) C dX10_colourOf_35 rfl ex3_7 (by decide) rfl ?_
    refine G.iload C 4 dX10_colourOf_36 rfl ?_
    refine G.aload_n C 1 dX10_colourOf_38 rfl rfl ?_
    refine G.getR (k := 48) C k_X10 (sm_67 hE) rfl (by decide) tg_1479 dX10_colourOf_39 ?_
    refine G.aload_n C 1 dX10_colourOf_42 rfl rfl ?_
    refine G.getR (k := 14) C k_X10 (sm_67 hE) rfl (by decide) tg_1445 dX10_colourOf_43 ?_
    refine G.iload_n C 2 dX10_colourOf_46 rfl rfl ?_
    obtain ⟨hg_8, h⟩ := gd_ex h
    refine aald_q (k := 1) (t := 81 + ix x1) (ty := .array .int) C (sm_80 hE) rfl rfl hg_8 (rowE_80 hg_8) dX10_colourOf_47 ?_
    have hq_9 := rowS_80 hE hg_8
    refine G.iload C 5 dX10_colourOf_48 rfl ?_
    obtain ⟨hg_10, h⟩ := gd_ex h
    refine G.aI (j := ix x5) C (hq_9) hg_10 rfl dX10_colourOf_50 ?_
    obtain ⟨hg_11, h⟩ := gd_ex h
    refine G.aI (j := ix (M.1 (81 + ix x1) (ix x5))) C (sm_110 hE) hg_11 rfl dX10_colourOf_51 ?_
    refine G.iload_n C 3 dX10_colourOf_52 rfl rfl ?_
    refine G.aload_n C 1 dX10_colourOf_53 rfl rfl ?_
    refine G.getR (k := 14) C k_X10 (sm_67 hE) rfl (by decide) tg_1445 dX10_colourOf_54 ?_
    refine G.iload_n C 2 dX10_colourOf_57 rfl rfl ?_
    obtain ⟨hg_12, h⟩ := gd_ex h
    refine aald_q (k := 1) (t := 81 + ix x1) (ty := .array .int) C (sm_80 hE) rfl rfl hg_12 (rowE_80 hg_12) dX10_colourOf_58 ?_
    have hq_13 := rowS_80 hE hg_12
    refine G.iload C 5 dX10_colourOf_59 rfl ?_
    obtain ⟨hg_14, h⟩ := gd_ex h
    refine G.aI (j := ix x5) C (hq_13) hg_14 rfl dX10_colourOf_61 ?_
    obtain ⟨v_16, hv_15, h⟩ := bd_ex h
    refine G.callS (rest := [.int (M.1 110 (ix (M.1 (81 + ix x1) (ix x5)))), .int x4]) C (s_X10_roomOf  hv_15) ⟨tg_1901, tg_103, ok_X10_roomOf, Nat.le_of_ble_eq_true rfl, Nat.le_of_ble_eq_true rfl⟩ tg_1899 tg_1900 rfl (Nat.le_of_ble_eq_true rfl) dX10_colourOf_62 ⟨Nat.le_refl 0, Nat.le_refl 0⟩ ?_
    refine G.iadd C dX10_colourOf_65 ?_
    refine G.iadd C dX10_colourOf_66 ?_
    obtain ⟨x4_17, ex4_17, h⟩ := ltv_ex h
    refine G.istore (L' := [(4, .int x4_17), (3, .int x3_7), (0, .ref (eA E 67)), (1, .int x1), (2, .int x2), (5, .int x5)]) C dX10_colourOf_67 ex4_17 (by decide) rfl ?_
    obtain ⟨x5_18, ex5_18, h⟩ := ltv_ex h
    refine G.iinc (L' := [(5, .int x5_18), (4, .int x4_17), (3, .int x3_7), (0, .ref (eA E 67)), (1, .int x1), (2, .int x2)]) C 5 dX10_colourOf_69 rfl (ex5_18.trans rfl) (by decide) rfl ?_
    refine G.goto (tgt := 8) C dX10_colourOf_72 (by decide) ?_
    exact G.sub [3, 4, 5, 2, 1, 0] rfl (hk_8 _ _ _ _ _ _  h)
def b_X10_colourOf_67_8 : Nat → Int32 → Int32 → Int32 → Int32 → Int32 → Mm → Option Int32
  | 0, _, _, _, _, _, _ => none
  | n + 1, x1, x2, x3, x4, x5, M => bb_X10_colourOf_67_8 (b_X10_colourOf_67_8 n) x1 x2 x3 x4 x5 M
set_option maxHeartbeats 4000000 in
theorem g_X10_colourOf_67_8  {n : Nat} {x1 : Int32} {x2 : Int32} {x3 : Int32} {x4 : Int32} {x5 : Int32} {M : Mm} {v : Int32} (hE : Has shM (eH E)) (C : Cx RX10 cX10_colourOf 6 p (rmD 2) s m args meth c E) (hr : meth.sig.returnType = (some .int)) (h : b_X10_colourOf_67_8 n x1 x2 x3 x4 x5 M = some v) : G p l e (rmD 2) s m args below meth c E 6 0 0 (QR below args s E 0 0 (some (.int v)) M) 8 [(0, .ref (eA E 67)), (1, .int x1), (2, .int x2), (3, .int x3), (4, .int x4), (5, .int x5)] [] M := by
  induction n generalizing x1 x2 x3 x4 x5 M with
  | zero => cases h
  | succ n ih => exact gb_X10_colourOf_67_8 hE C hr (fun _ _ _ _ _ _ => ih)  h
def bb_X10_colourOf_67_0 (x1 : Int32) (x2 : Int32) (M : Mm) : Option Int32 := b_X10_colourOf_67_8 FU x1 x2 (0 : Int32) (0 : Int32) (0 : Int32) M
set_option maxHeartbeats 4000000 in
set_option maxRecDepth 100000 in
theorem gb_X10_colourOf_67_0  {x1 : Int32} {x2 : Int32} {M : Mm} {v : Int32} (hE : Has shM (eH E)) (C : Cx RX10 cX10_colourOf 6 p (rmD 2) s m args meth c E) (hr : meth.sig.returnType = (some .int)) (h : bb_X10_colourOf_67_0 x1 x2 M = some v) : G p l e (rmD 2) s m args below meth c E 6 0 0 (QR below args s E 0 0 (some (.int v)) M) 0 [(0, .ref (eA E 67)), (1, .int x1), (2, .int x2)] [] M := by
  unfold bb_X10_colourOf_67_0 at h
  refine G.iconst (v := (0 : Int32)) C dX10_colourOf_0 (by decide) ?_
  refine G.istore_n (L' := [(3, .int (0 : Int32)), (0, .ref (eA E 67)), (1, .int x1), (2, .int x2)]) C dX10_colourOf_1 rfl rfl (by decide) rfl ?_
  refine G.iconst (v := (0 : Int32)) C dX10_colourOf_2 (by decide) ?_
  refine G.istore (L' := [(4, .int (0 : Int32)), (3, .int (0 : Int32)), (0, .ref (eA E 67)), (1, .int x1), (2, .int x2)]) C dX10_colourOf_3 rfl (by decide) rfl ?_
  refine G.iconst (v := (0 : Int32)) C dX10_colourOf_5 (by decide) ?_
  refine G.istore (L' := [(5, .int (0 : Int32)), (4, .int (0 : Int32)), (3, .int (0 : Int32)), (0, .ref (eA E 67)), (1, .int x1), (2, .int x2)]) C dX10_colourOf_6 rfl (by decide) rfl ?_
  exact G.sub [3, 4, 5, 2, 1, 0] rfl (g_X10_colourOf_67_8 hE C hr  h)
def f_X10_colourOf_67 (x1 : Int32) (x2 : Int32) (M : Mm) : Option Int32 := bb_X10_colourOf_67_0 x1 x2 M
theorem s_X10_colourOf_67 {l : Launch} {E : Ev} {x1 : Int32} {x2 : Int32} {M : Mm} {v : Int32} (hE : Has shM (eH E)) (h : f_X10_colourOf_67 x1 x2 M = some v) : MetA l yX10_colourOf cX10_colourOf 6 (some .int) 2 E [.ref (eA E 67), .int x1, .int x2] M (some (.int v)) M := by
  refine MetA.of (by decide +kernel) (Nat.le_of_ble_eq_true rfl) ?_
  intro p e s m below meth c C hr hnm
  exact G.sub [0, 1, 2] rfl (gb_X10_colourOf_67_0 hE C hr  h)
def bb_X10_colour_67_48 (x1 : Int32) (x2 : Int32) (x3 : Int32) (s1 : Int32) (M : Mm) : Option (Int32 × Mm) := bd2 (f_X10_bad_67 s1 (2 : Int32) M) fun v_11 M_10 => if v_11 = 0 then (gd (inb x2 10) (bd (f_X10_layBlacks_67 (M_10.1 90 (ix x2)) M_10) fun M_14 => bd (f_X10_colourOf_67 x1 x3 M_14) fun v_16 => some (v_16, M_14))) else (some ((0 : Int32), M_10))
set_option maxHeartbeats 4000000 in
set_option maxRecDepth 100000 in
theorem gb_X10_colour_67_48  {x1 : Int32} {x2 : Int32} {x3 : Int32} {s1 : Int32} {M : Mm} {v : Int32} {M' : Mm} (hE : Has shM (eH E)) (C : Cx RX10 cX10_colour 4 p (rmD 6) s m args meth c E) (hr : meth.sig.returnType = (some .int)) (h : bb_X10_colour_67_48 x1 x2 x3 s1 M = some (v, M')) : G p l e (rmD 6) s m args below meth c E 4 0 0 (QR below args s E 0 0 (some (.int v)) M') 48 [(0, .ref (eA E 67)), (1, .int x1), (2, .int x2), (3, .int x3)] [.int s1, .ref (eA E 67)] M := by
  unfold bb_X10_colour_67_48 at h
  refine G.iconst (v := (2 : Int32)) C dX10_colour_48 (by decide) ?_
  obtain ⟨v_11, M_10, hv_9, h⟩ := bd2_ex h
  refine G.callV (rest := []) C (s_X10_bad_67 hE  hv_9) ⟨tg_1600, tg_103, ok_X10_bad, Nat.le_of_ble_eq_true rfl, Nat.le_of_ble_eq_true rfl⟩ tg_1597 tg_1599 tg_46 (sm_67 hE) rfl rfl (Nat.le_of_ble_eq_true rfl) dX10_colour_49 ⟨Nat.le_refl 0, Nat.le_refl 0⟩ ?_
  refine G.if_eq (tgt := 57) C dX10_colour_52 (by decide) (fun hc => ?_) (fun hc => ?_)
  · have h := it_t h hc
    refine G.aload_n C 0 dX10_colour_57 rfl rfl ?_
    refine G.aload_n C 0 dX10_colour_58 rfl rfl ?_
    refine G.getR (k := 18) C k_X10 (sm_67 hE) rfl (by decide) tg_1449 dX10_colour_59 ?_
    refine G.iload_n C 2 dX10_colour_62 rfl rfl ?_
    obtain ⟨hg_12, h⟩ := gd_ex h
    refine G.aI (j := ix x2) C (sm_90 hE) hg_12 rfl dX10_colour_63 ?_
    obtain ⟨M_14, hv_13, h⟩ := bd_ex h
    refine G.callV (rest := []) C (s_X10_layBlacks_67 hE  hv_13) ⟨tg_1894, tg_103, ok_X10_layBlacks, Nat.le_of_ble_eq_true rfl, Nat.le_of_ble_eq_true rfl⟩ tg_1891 tg_1893 tg_81 (sm_67 hE) rfl rfl (Nat.le_of_ble_eq_true rfl) dX10_colour_64 ⟨Nat.le_refl 0, Nat.le_refl 0⟩ ?_
    refine G.aload_n C 0 dX10_colour_67 rfl rfl ?_
    refine G.iload_n C 1 dX10_colour_68 rfl rfl ?_
    refine G.iload_n C 3 dX10_colour_69 rfl rfl ?_
    obtain ⟨v_16, hv_15, h⟩ := bd_ex h
    refine G.callV (rest := []) C (s_X10_colourOf_67 hE  hv_15) ⟨tg_1898, tg_103, ok_X10_colourOf, Nat.le_of_ble_eq_true rfl, Nat.le_of_ble_eq_true rfl⟩ tg_1895 tg_1897 tg_82 (sm_67 hE) rfl rfl (Nat.le_of_ble_eq_true rfl) dX10_colour_70 ⟨Nat.le_refl 0, Nat.le_refl 0⟩ ?_
    cases h
    exact G.iret C hr dX10_colour_73
  · have h := it_f h hc
    refine G.iconst (v := (0 : Int32)) C dX10_colour_55 (by decide) ?_
    cases h
    exact G.iret C hr dX10_colour_56
def bb_X10_colour_67_27 (x1 : Int32) (x2 : Int32) (x3 : Int32) (s1 : Int32) (M : Mm) : Option (Int32 × Mm) := bd2 (f_X10_bad_67 s1 (1 : Int32) M) fun v_6 M_5 => if v_6 = 0 then (bd (f_X10_isRoom x2 x3) fun v_8 => if v_8 = 0 then (bb_X10_colour_67_48 x1 x2 x3 (1 : Int32) M_5) else (bb_X10_colour_67_48 x1 x2 x3 (0 : Int32) M_5)) else (some ((0 : Int32), M_5))
set_option maxHeartbeats 4000000 in
set_option maxRecDepth 100000 in
theorem gb_X10_colour_67_27  {x1 : Int32} {x2 : Int32} {x3 : Int32} {s1 : Int32} {M : Mm} {v : Int32} {M' : Mm} (hE : Has shM (eH E)) (C : Cx RX10 cX10_colour 4 p (rmD 6) s m args meth c E) (hr : meth.sig.returnType = (some .int)) (h : bb_X10_colour_67_27 x1 x2 x3 s1 M = some (v, M')) : G p l e (rmD 6) s m args below meth c E 4 0 0 (QR below args s E 0 0 (some (.int v)) M') 27 [(0, .ref (eA E 67)), (1, .int x1), (2, .int x2), (3, .int x3)] [.int s1, .ref (eA E 67)] M := by
  unfold bb_X10_colour_67_27 at h
  refine G.iconst (v := (1 : Int32)) C dX10_colour_27 (by decide) ?_
  obtain ⟨v_6, M_5, hv_4, h⟩ := bd2_ex h
  refine G.callV (rest := []) C (s_X10_bad_67 hE  hv_4) ⟨tg_1600, tg_103, ok_X10_bad, Nat.le_of_ble_eq_true rfl, Nat.le_of_ble_eq_true rfl⟩ tg_1597 tg_1599 tg_46 (sm_67 hE) rfl rfl (Nat.le_of_ble_eq_true rfl) dX10_colour_28 ⟨Nat.le_refl 0, Nat.le_refl 0⟩ ?_
  refine G.if_ne (tgt := 55) C dX10_colour_31 (by decide) (fun hc => ?_) (fun hc => ?_)
  · have h := it_f h hc
    refine G.iconst (v := (0 : Int32)) C dX10_colour_55 (by decide) ?_
    cases h
    exact G.iret C hr dX10_colour_56
  · have h := it_t h hc
    refine G.aload_n C 0 dX10_colour_34 rfl rfl ?_
    refine G.iload_n C 2 dX10_colour_35 rfl rfl ?_
    refine G.iload_n C 3 dX10_colour_36 rfl rfl ?_
    obtain ⟨v_8, hv_7, h⟩ := bd_ex h
    refine G.callS (rest := [.ref (eA E 67)]) C (s_X10_isRoom  hv_7) ⟨tg_1889, tg_103, ok_X10_isRoom, Nat.le_of_ble_eq_true rfl, Nat.le_of_ble_eq_true rfl⟩ tg_1887 tg_1888 rfl (Nat.le_of_ble_eq_true rfl) dX10_colour_37 ⟨Nat.le_refl 0, Nat.le_refl 0⟩ ?_
    refine G.if_ne (tgt := 47) C dX10_colour_40 (by decide) (fun hc => ?_) (fun hc => ?_)
    · have h := it_f h hc
      refine G.iconst (v := (0 : Int32)) C dX10_colour_47 (by decide) ?_
      exact G.sub [0, 1, 2, 3] rfl (gb_X10_colour_67_48 hE C hr  h)
    · have h := it_t h hc
      refine G.iconst (v := (1 : Int32)) C dX10_colour_43 (by decide) ?_
      refine G.goto (tgt := 48) C dX10_colour_44 (by decide) ?_
      exact G.sub [0, 1, 2, 3] rfl (gb_X10_colour_67_48 hE C hr  h)
def bb_X10_colour_67_0 (x1 : Int32) (x2 : Int32) (x3 : Int32) (M : Mm) : Option (Int32 × Mm) := ltv (wI M 67 0 (0 : Int32)) fun M_1 => bd (f_X10_in x1 (0 : Int32) ((M_1.1 70 1) - (1 : Int32))) fun v_3 => if v_3 = 0 then (bb_X10_colour_67_27 x1 x2 x3 (1 : Int32) M_1) else (bb_X10_colour_67_27 x1 x2 x3 (0 : Int32) M_1)
set_option maxHeartbeats 4000000 in
set_option maxRecDepth 100000 in
theorem gb_X10_colour_67_0  {x1 : Int32} {x2 : Int32} {x3 : Int32} {M : Mm} {v : Int32} {M' : Mm} (hE : Has shM (eH E)) (C : Cx RX10 cX10_colour 4 p (rmD 6) s m args meth c E) (hr : meth.sig.returnType = (some .int)) (h : bb_X10_colour_67_0 x1 x2 x3 M = some (v, M')) : G p l e (rmD 6) s m args below meth c E 4 0 0 (QR below args s E 0 0 (some (.int v)) M') 0 [(0, .ref (eA E 67)), (1, .int x1), (2, .int x2), (3, .int x3)] [] M := by
  unfold bb_X10_colour_67_0 at h
  refine G.aload_n C 0 dX10_colour_0 rfl rfl ?_
  refine G.iconst (v := (0 : Int32)) C dX10_colour_1 (by decide) ?_
  obtain ⟨M_1, eM_1, h⟩ := ltv_ex h
  refine G.putI (k := 0) C k_X10 (sm_67 hE) rfl (by decide) tg_1431 rfl rfl dX10_colour_2 eM_1 ?_
  refine G.aload_n C 0 dX10_colour_5 rfl rfl ?_
  refine G.iload_n C 1 dX10_colour_6 rfl rfl ?_
  refine G.iconst (v := (0 : Int32)) C dX10_colour_7 (by decide) ?_
  refine G.aload_n C 0 dX10_colour_8 rfl rfl ?_
  refine G.getR (k := 10) C k_X10 (sm_67 hE) rfl (by decide) tg_1441 dX10_colour_9 ?_
  refine G.iconst (v := (1 : Int32)) C dX10_colour_12 (by decide) ?_
  refine G.aI (j := 1) C (sm_70 hE) (by decide) (by decide) dX10_colour_13 ?_
  refine G.iconst (v := (1 : Int32)) C dX10_colour_14 (by decide) ?_
  refine G.isub C dX10_colour_15 ?_
  obtain ⟨v_3, hv_2, h⟩ := bd_ex h
  refine G.callS (rest := [.ref (eA E 67)]) C (s_X10_in  hv_2) ⟨tg_1596, tg_103, ok_X10_in, Nat.le_of_ble_eq_true rfl, Nat.le_of_ble_eq_true rfl⟩ tg_1594 tg_1595 rfl (Nat.le_of_ble_eq_true rfl) dX10_colour_16 ⟨Nat.le_refl 0, Nat.le_refl 0⟩ ?_
  refine G.if_ne (tgt := 26) C dX10_colour_19 (by decide) (fun hc => ?_) (fun hc => ?_)
  · have h := it_f h hc
    refine G.iconst (v := (0 : Int32)) C dX10_colour_26 (by decide) ?_
    exact G.sub [0, 1, 2, 3] rfl (gb_X10_colour_67_27 hE C hr  h)
  · have h := it_t h hc
    refine G.iconst (v := (1 : Int32)) C dX10_colour_22 (by decide) ?_
    refine G.goto (tgt := 27) C dX10_colour_23 (by decide) ?_
    exact G.sub [0, 1, 2, 3] rfl (gb_X10_colour_67_27 hE C hr  h)
def f_X10_colour_67 (x1 : Int32) (x2 : Int32) (x3 : Int32) (M : Mm) : Option (Int32 × Mm) := bb_X10_colour_67_0 x1 x2 x3 M
theorem s_X10_colour_67 {l : Launch} {E : Ev} {x1 : Int32} {x2 : Int32} {x3 : Int32} {M : Mm} {v : Int32} {M' : Mm} (hE : Has shM (eH E)) (h : f_X10_colour_67 x1 x2 x3 M = some (v, M')) : MetA l yX10_colour cX10_colour 4 (some .int) 6 E [.ref (eA E 67), .int x1, .int x2, .int x3] M (some (.int v)) M' := by
  refine MetA.of (by decide +kernel) (Nat.le_of_ble_eq_true rfl) ?_
  intro p e s m below meth c C hr hnm
  exact G.sub [0, 1, 2, 3] rfl (gb_X10_colour_67_0 hE C hr  h)
def bb_X10_unevenBy_67_44 (k_7 : Int32 → Int32 → Int32 → Int32 → Mm → Option Int32) (x1 : Int32) (x3 : Int32) (x4 : Int32) (x5 : Int32) (s0 : Int32) (M : Mm) : Option Int32 := if x4 = 0 then (ltv (x4 + (1 : Int32)) fun x4_3 => k_7 x1 s0 x5 x4_3 M) else (if x3 ≤ x5 then (ltv (x4 + (1 : Int32)) fun x4_4 => k_7 x1 s0 x3 x4_4 M) else (ltv (x4 + (1 : Int32)) fun x4_5 => k_7 x1 s0 x5 x4_5 M))
set_option maxHeartbeats 4000000 in
set_option maxRecDepth 100000 in
theorem gb_X10_unevenBy_67_44  {k_7 : Int32 → Int32 → Int32 → Int32 → Mm → Option Int32} {x1 : Int32} {x3 : Int32} {x4 : Int32} {x5 : Int32} {s0 : Int32} {M : Mm} {v : Int32} (hE : Has shM (eH E)) (C : Cx RX10 cX10_unevenBy 6 p (rmD 3) s m args meth c E) (hr : meth.sig.returnType = (some .int)) (hk_7 : ∀ (x1 : Int32) (x2 : Int32) (x3 : Int32) (x4 : Int32) (M : Mm), k_7 x1 x2 x3 x4 M = some v → G p l e (rmD 3) s m args below meth c E 6 0 0 (QR below args s E 0 0 (some (.int v)) M) 7 [(0, .ref (eA E 67)), (1, .int x1), (2, .int x2), (3, .int x3), (4, .int x4)] [] M) (h : bb_X10_unevenBy_67_44 k_7 x1 x3 x4 x5 s0 M = some v) : G p l e (rmD 3) s m args below meth c E 6 0 0 (QR below args s E 0 0 (some (.int v)) M) 44 [(0, .ref (eA E 67)), (1, .int x1), (3, .int x3), (4, .int x4), (5, .int x5)] [.int s0] M := by
  unfold bb_X10_unevenBy_67_44 at h
  refine G.istore_n (L' := [(2, .int s0), (0, .ref (eA E 67)), (1, .int x1), (3, .int x3), (4, .int x4), (5, .int x5)]) C dX10_unevenBy_44 rfl rfl (by decide) rfl ?_
  refine G.iload C 4 dX10_unevenBy_45 rfl ?_
  refine G.if_eq (tgt := 56) C dX10_unevenBy_47 (by decide) (fun hc => ?_) (fun hc => ?_)
  · have h := it_t h hc
    refine G.iload C 5 dX10_unevenBy_56 rfl ?_
    refine G.goto (tgt := 62) C dX10_unevenBy_58 (by decide) ?_
    refine G.istore_n (L' := [(3, .int x5), (2, .int s0), (0, .ref (eA E 67)), (1, .int x1), (4, .int x4), (5, .int x5)]) C dX10_unevenBy_62 rfl rfl (by decide) rfl ?_
    obtain ⟨x4_3, ex4_3, h⟩ := ltv_ex h
    refine G.iinc (L' := [(4, .int x4_3), (3, .int x5), (2, .int s0), (0, .ref (eA E 67)), (1, .int x1), (5, .int x5)]) C 4 dX10_unevenBy_63 rfl (ex4_3.trans rfl) (by decide) rfl ?_
    refine G.goto (tgt := 7) C dX10_unevenBy_66 (by decide) ?_
    exact G.sub [3, 4, 2, 1, 0] rfl (hk_7 _ _ _ _ _  h)
  · have h := it_f h hc
    refine G.iload C 5 dX10_unevenBy_50 rfl ?_
    refine G.iload_n C 3 dX10_unevenBy_52 rfl rfl ?_
    refine G.icmp_ge (tgt := 61) C dX10_unevenBy_53 (by decide) (fun hc => ?_) (fun hc => ?_)
    · have h := it_t h hc
      refine G.iload_n C 3 dX10_unevenBy_61 rfl rfl ?_
      refine G.istore_n (L' := [(3, .int x3), (2, .int s0), (0, .ref (eA E 67)), (1, .int x1), (4, .int x4), (5, .int x5)]) C dX10_unevenBy_62 rfl rfl (by decide) rfl ?_
      obtain ⟨x4_4, ex4_4, h⟩ := ltv_ex h
      refine G.iinc (L' := [(4, .int x4_4), (3, .int x3), (2, .int s0), (0, .ref (eA E 67)), (1, .int x1), (5, .int x5)]) C 4 dX10_unevenBy_63 rfl (ex4_4.trans rfl) (by decide) rfl ?_
      refine G.goto (tgt := 7) C dX10_unevenBy_66 (by decide) ?_
      exact G.sub [3, 4, 2, 1, 0] rfl (hk_7 _ _ _ _ _  h)
    · have h := it_f h hc
      refine G.iload C 5 dX10_unevenBy_56 rfl ?_
      refine G.goto (tgt := 62) C dX10_unevenBy_58 (by decide) ?_
      refine G.istore_n (L' := [(3, .int x5), (2, .int s0), (0, .ref (eA E 67)), (1, .int x1), (4, .int x4), (5, .int x5)]) C dX10_unevenBy_62 rfl rfl (by decide) rfl ?_
      obtain ⟨x4_5, ex4_5, h⟩ := ltv_ex h
      refine G.iinc (L' := [(4, .int x4_5), (3, .int x5), (2, .int s0), (0, .ref (eA E 67)), (1, .int x1), (5, .int x5)]) C 4 dX10_unevenBy_63 rfl (ex4_5.trans rfl) (by decide) rfl ?_
      refine G.goto (tgt := 7) C dX10_unevenBy_66 (by decide) ?_
      exact G.sub [3, 4, 2, 1, 0] rfl (hk_7 _ _ _ _ _  h)
def bb_X10_unevenBy_67_38 (k_7 : Int32 → Int32 → Int32 → Int32 → Mm → Option Int32) (x1 : Int32) (x3 : Int32) (x4 : Int32) (x5 : Int32) (M : Mm) : Option Int32 := bb_X10_unevenBy_67_44 k_7 x1 x3 x4 x5 x5 M
set_option maxHeartbeats 4000000 in
set_option maxRecDepth 100000 in
theorem gb_X10_unevenBy_67_38  {k_7 : Int32 → Int32 → Int32 → Int32 → Mm → Option Int32} {x1 : Int32} {x3 : Int32} {x4 : Int32} {x5 : Int32} {M : Mm} {v : Int32} (hE : Has shM (eH E)) (C : Cx RX10 cX10_unevenBy 6 p (rmD 3) s m args meth c E) (hr : meth.sig.returnType = (some .int)) (hk_7 : ∀ (x1 : Int32) (x2 : Int32) (x3 : Int32) (x4 : Int32) (M : Mm), k_7 x1 x2 x3 x4 M = some v → G p l e (rmD 3) s m args below meth c E 6 0 0 (QR below args s E 0 0 (some (.int v)) M) 7 [(0, .ref (eA E 67)), (1, .int x1), (2, .int x2), (3, .int x3), (4, .int x4)] [] M) (h : bb_X10_unevenBy_67_38 k_7 x1 x3 x4 x5 M = some v) : G p l e (rmD 3) s m args below meth c E 6 0 0 (QR below args s E 0 0 (some (.int v)) M) 38 [(0, .ref (eA E 67)), (1, .int x1), (3, .int x3), (4, .int x4), (5, .int x5)] [] M := by
  unfold bb_X10_unevenBy_67_38 at h
  refine G.iload C 4 dX10_unevenBy_38 rfl ?_
  refine G.goto (tgt := 44) C dX10_unevenBy_40 (by decide) ?_
  exact G.sub [0, 1, 2, 3, 4] rfl (gb_X10_unevenBy_67_44 hE C hr hk_7  h)
def bb_X10_unevenBy_67_7 (k_7 : Int32 → Int32 → Int32 → Int32 → Mm → Option Int32) (x1 : Int32) (x2 : Int32) (x3 : Int32) (x4 : Int32) (M : Mm) : Option Int32 := if (M.1 70 1) ≤ x4 then (some (x2 - x3)) else (bd (f_X10_colourOf_67 x4 x1 M) fun v_2 => if x4 = 0 then (bb_X10_unevenBy_67_38 k_7 x1 x3 x4 v_2 M) else (if v_2 ≤ x2 then (bb_X10_unevenBy_67_44 k_7 x1 x3 x4 v_2 x2 M) else (bb_X10_unevenBy_67_38 k_7 x1 x3 x4 v_2 M)))
set_option maxHeartbeats 4000000 in
set_option maxRecDepth 100000 in
theorem gb_X10_unevenBy_67_7  {k_7 : Int32 → Int32 → Int32 → Int32 → Mm → Option Int32} {x1 : Int32} {x2 : Int32} {x3 : Int32} {x4 : Int32} {M : Mm} {v : Int32} (hE : Has shM (eH E)) (C : Cx RX10 cX10_unevenBy 6 p (rmD 3) s m args meth c E) (hr : meth.sig.returnType = (some .int)) (hk_7 : ∀ (x1 : Int32) (x2 : Int32) (x3 : Int32) (x4 : Int32) (M : Mm), k_7 x1 x2 x3 x4 M = some v → G p l e (rmD 3) s m args below meth c E 6 0 0 (QR below args s E 0 0 (some (.int v)) M) 7 [(0, .ref (eA E 67)), (1, .int x1), (2, .int x2), (3, .int x3), (4, .int x4)] [] M) (h : bb_X10_unevenBy_67_7 k_7 x1 x2 x3 x4 M = some v) : G p l e (rmD 3) s m args below meth c E 6 0 0 (QR below args s E 0 0 (some (.int v)) M) 7 [(0, .ref (eA E 67)), (1, .int x1), (2, .int x2), (3, .int x3), (4, .int x4)] [] M := by
  unfold bb_X10_unevenBy_67_7 at h
  refine G.iload C 4 dX10_unevenBy_7 rfl ?_
  refine G.aload_n C 0 dX10_unevenBy_9 rfl rfl ?_
  refine G.getR (k := 10) C k_X10 (sm_67 hE) rfl (by decide) tg_1441 dX10_unevenBy_10 ?_
  refine G.iconst (v := (1 : Int32)) C dX10_unevenBy_13 (by decide) ?_
  refine G.aI (j := 1) C (sm_70 hE) (by decide) (by decide) dX10_unevenBy_14 ?_
  refine G.icmp_ge (tgt := 69) C dX10_unevenBy_15 (by decide) (fun hc => ?_) (fun hc => ?_)
  · have h := it_t h hc
    refine G.iload_n C 2 dX10_unevenBy_69 rfl rfl ?_
    refine G.iload_n C 3 dX10_unevenBy_70 rfl rfl ?_
    refine G.isub C dX10_unevenBy_71 ?_
    cases h
    exact G.iret C hr dX10_unevenBy_72
  · have h := it_f h hc
    refine G.aload_n C 0 dX10_unevenBy_18 rfl rfl ?_
    refine G.iload C 4 dX10_unevenBy_19 rfl ?_
    refine G.iload_n C 1 dX10_unevenBy_21 rfl rfl ?_
    obtain ⟨v_2, hv_1, h⟩ := bd_ex h
    refine G.callV (rest := []) C (s_X10_colourOf_67 hE  hv_1) ⟨tg_1898, tg_103, ok_X10_colourOf, Nat.le_of_ble_eq_true rfl, Nat.le_of_ble_eq_true rfl⟩ tg_1895 tg_1897 tg_82 (sm_67 hE) rfl rfl (Nat.le_of_ble_eq_true rfl) dX10_unevenBy_22 ⟨Nat.le_refl 0, Nat.le_refl 0⟩ ?_
    refine G.istore (L' := [(5, .int v_2), (0, .ref (eA E 67)), (1, .int x1), (2, .int x2), (3, .int x3), (4, .int x4)]) C dX10_unevenBy_25 rfl (by decide) rfl ?_
    refine G.iload C 5 dX10_unevenBy_27 rfl ?_
    refine G.if_eq (tgt := 38) C dX10_unevenBy_29 (by decide) (fun hc => ?_) (fun hc => ?_)
    · have h := it_t h hc
      exact G.sub [1, 2, 4, 5, 0] rfl (gb_X10_unevenBy_67_38 hE C hr hk_7  h)
    · have h := it_f h hc
      refine G.iload C 0 dX10_unevenBy_32 rfl ?_
      refine G.iload_n C 3 dX10_unevenBy_34 rfl rfl ?_
      refine G.icmp_le (tgt := 43) C dX10_unevenBy_35 (by decide) (fun hc => ?_) (fun hc => ?_)
      · have h := it_t h hc
        refine G.iload_n C 3 dX10_unevenBy_43 rfl rfl ?_
        exact G.sub [1, 2, 4, 5, 0] rfl (gb_X10_unevenBy_67_44 hE C hr hk_7  h)
      · have h := it_f h hc
        exact G.sub [1, 2, 4, 5, 0] rfl (gb_X10_unevenBy_67_38 hE C hr hk_7  h)
def b_X10_unevenBy_67_7 : Nat → Int32 → Int32 → Int32 → Int32 → Mm → Option Int32
  | 0, _, _, _, _, _ => none
  | n + 1, x1, x2, x3, x4, M => bb_X10_unevenBy_67_7 (b_X10_unevenBy_67_7 n) x1 x2 x3 x4 M
set_option maxHeartbeats 4000000 in
theorem g_X10_unevenBy_67_7  {n : Nat} {x1 : Int32} {x2 : Int32} {x3 : Int32} {x4 : Int32} {M : Mm} {v : Int32} (hE : Has shM (eH E)) (C : Cx RX10 cX10_unevenBy 6 p (rmD 3) s m args meth c E) (hr : meth.sig.returnType = (some .int)) (h : b_X10_unevenBy_67_7 n x1 x2 x3 x4 M = some v) : G p l e (rmD 3) s m args below meth c E 6 0 0 (QR below args s E 0 0 (some (.int v)) M) 7 [(0, .ref (eA E 67)), (1, .int x1), (2, .int x2), (3, .int x3), (4, .int x4)] [] M := by
  induction n generalizing x1 x2 x3 x4 M with
  | zero => cases h
  | succ n ih => exact gb_X10_unevenBy_67_7 hE C hr (fun _ _ _ _ _ => ih)  h
def bb_X10_unevenBy_67_0 (x1 : Int32) (M : Mm) : Option Int32 := b_X10_unevenBy_67_7 FU x1 (0 : Int32) (0 : Int32) (0 : Int32) M
set_option maxHeartbeats 4000000 in
set_option maxRecDepth 100000 in
theorem gb_X10_unevenBy_67_0  {x1 : Int32} {M : Mm} {v : Int32} (hE : Has shM (eH E)) (C : Cx RX10 cX10_unevenBy 6 p (rmD 3) s m args meth c E) (hr : meth.sig.returnType = (some .int)) (h : bb_X10_unevenBy_67_0 x1 M = some v) : G p l e (rmD 3) s m args below meth c E 6 0 0 (QR below args s E 0 0 (some (.int v)) M) 0 [(0, .ref (eA E 67)), (1, .int x1)] [] M := by
  unfold bb_X10_unevenBy_67_0 at h
  refine G.iconst (v := (0 : Int32)) C dX10_unevenBy_0 (by decide) ?_
  refine G.istore_n (L' := [(2, .int (0 : Int32)), (0, .ref (eA E 67)), (1, .int x1)]) C dX10_unevenBy_1 rfl rfl (by decide) rfl ?_
  refine G.iconst (v := (0 : Int32)) C dX10_unevenBy_2 (by decide) ?_
  refine G.istore_n (L' := [(3, .int (0 : Int32)), (2, .int (0 : Int32)), (0, .ref (eA E 67)), (1, .int x1)]) C dX10_unevenBy_3 rfl rfl (by decide) rfl ?_
  refine G.iconst (v := (0 : Int32)) C dX10_unevenBy_4 (by decide) ?_
  refine G.istore (L' := [(4, .int (0 : Int32)), (3, .int (0 : Int32)), (2, .int (0 : Int32)), (0, .ref (eA E 67)), (1, .int x1)]) C dX10_unevenBy_5 rfl (by decide) rfl ?_
  exact G.sub [3, 4, 2, 1, 0] rfl (g_X10_unevenBy_67_7 hE C hr  h)
def f_X10_unevenBy_67 (x1 : Int32) (M : Mm) : Option Int32 := bb_X10_unevenBy_67_0 x1 M
theorem s_X10_unevenBy_67 {l : Launch} {E : Ev} {x1 : Int32} {M : Mm} {v : Int32} (hE : Has shM (eH E)) (h : f_X10_unevenBy_67 x1 M = some v) : MetA l yX10_unevenBy cX10_unevenBy 6 (some .int) 3 E [.ref (eA E 67), .int x1] M (some (.int v)) M := by
  refine MetA.of (by decide +kernel) (Nat.le_of_ble_eq_true rfl) ?_
  intro p e s m below meth c C hr hnm
  exact G.sub [0, 1] rfl (gb_X10_unevenBy_67_0 hE C hr  h)
def bb_X10_uneven_67_19 (x1 : Int32) (x2 : Int32) (s1 : Int32) (M : Mm) : Option (Int32 × Mm) := bd2 (f_X10_bad_67 s1 (1 : Int32) M) fun v_6 M_5 => if v_6 = 0 then (gd (inb x1 10) (bd (f_X10_layBlacks_67 (M_5.1 90 (ix x1)) M_5) fun M_9 => bd (f_X10_unevenBy_67 x2 M_9) fun v_11 => some (v_11, M_9))) else (some ((0 : Int32), M_5))
set_option maxHeartbeats 4000000 in
set_option maxRecDepth 100000 in
theorem gb_X10_uneven_67_19  {x1 : Int32} {x2 : Int32} {s1 : Int32} {M : Mm} {v : Int32} {M' : Mm} (hE : Has shM (eH E)) (C : Cx RX10 cX10_uneven 3 p (rmD 6) s m args meth c E) (hr : meth.sig.returnType = (some .int)) (h : bb_X10_uneven_67_19 x1 x2 s1 M = some (v, M')) : G p l e (rmD 6) s m args below meth c E 3 0 0 (QR below args s E 0 0 (some (.int v)) M') 19 [(0, .ref (eA E 67)), (1, .int x1), (2, .int x2)] [.int s1, .ref (eA E 67)] M := by
  unfold bb_X10_uneven_67_19 at h
  refine G.iconst (v := (1 : Int32)) C dX10_uneven_19 (by decide) ?_
  obtain ⟨v_6, M_5, hv_4, h⟩ := bd2_ex h
  refine G.callV (rest := []) C (s_X10_bad_67 hE  hv_4) ⟨tg_1600, tg_103, ok_X10_bad, Nat.le_of_ble_eq_true rfl, Nat.le_of_ble_eq_true rfl⟩ tg_1597 tg_1599 tg_46 (sm_67 hE) rfl rfl (Nat.le_of_ble_eq_true rfl) dX10_uneven_20 ⟨Nat.le_refl 0, Nat.le_refl 0⟩ ?_
  refine G.if_eq (tgt := 28) C dX10_uneven_23 (by decide) (fun hc => ?_) (fun hc => ?_)
  · have h := it_t h hc
    refine G.aload_n C 0 dX10_uneven_28 rfl rfl ?_
    refine G.aload_n C 0 dX10_uneven_29 rfl rfl ?_
    refine G.getR (k := 18) C k_X10 (sm_67 hE) rfl (by decide) tg_1449 dX10_uneven_30 ?_
    refine G.iload_n C 1 dX10_uneven_33 rfl rfl ?_
    obtain ⟨hg_7, h⟩ := gd_ex h
    refine G.aI (j := ix x1) C (sm_90 hE) hg_7 rfl dX10_uneven_34 ?_
    obtain ⟨M_9, hv_8, h⟩ := bd_ex h
    refine G.callV (rest := []) C (s_X10_layBlacks_67 hE  hv_8) ⟨tg_1894, tg_103, ok_X10_layBlacks, Nat.le_of_ble_eq_true rfl, Nat.le_of_ble_eq_true rfl⟩ tg_1891 tg_1893 tg_81 (sm_67 hE) rfl rfl (Nat.le_of_ble_eq_true rfl) dX10_uneven_35 ⟨Nat.le_refl 0, Nat.le_refl 0⟩ ?_
    refine G.aload_n C 0 dX10_uneven_38 rfl rfl ?_
    refine G.iload_n C 2 dX10_uneven_39 rfl rfl ?_
    obtain ⟨v_11, hv_10, h⟩ := bd_ex h
    refine G.callV (rest := []) C (s_X10_unevenBy_67 hE  hv_10) ⟨tg_1909, tg_103, ok_X10_unevenBy, Nat.le_of_ble_eq_true rfl, Nat.le_of_ble_eq_true rfl⟩ tg_1906 tg_1908 tg_83 (sm_67 hE) rfl rfl (Nat.le_of_ble_eq_true rfl) dX10_uneven_40 ⟨Nat.le_refl 0, Nat.le_refl 0⟩ ?_
    cases h
    exact G.iret C hr dX10_uneven_43
  · have h := it_f h hc
    refine G.iconst (v := (0 : Int32)) C dX10_uneven_26 (by decide) ?_
    cases h
    exact G.iret C hr dX10_uneven_27
def bb_X10_uneven_67_0 (x1 : Int32) (x2 : Int32) (M : Mm) : Option (Int32 × Mm) := ltv (wI M 67 0 (0 : Int32)) fun M_1 => bd (f_X10_isRoom x1 x2) fun v_3 => if v_3 = 0 then (bb_X10_uneven_67_19 x1 x2 (1 : Int32) M_1) else (bb_X10_uneven_67_19 x1 x2 (0 : Int32) M_1)
set_option maxHeartbeats 4000000 in
set_option maxRecDepth 100000 in
theorem gb_X10_uneven_67_0  {x1 : Int32} {x2 : Int32} {M : Mm} {v : Int32} {M' : Mm} (hE : Has shM (eH E)) (C : Cx RX10 cX10_uneven 3 p (rmD 6) s m args meth c E) (hr : meth.sig.returnType = (some .int)) (h : bb_X10_uneven_67_0 x1 x2 M = some (v, M')) : G p l e (rmD 6) s m args below meth c E 3 0 0 (QR below args s E 0 0 (some (.int v)) M') 0 [(0, .ref (eA E 67)), (1, .int x1), (2, .int x2)] [] M := by
  unfold bb_X10_uneven_67_0 at h
  refine G.aload_n C 0 dX10_uneven_0 rfl rfl ?_
  refine G.iconst (v := (0 : Int32)) C dX10_uneven_1 (by decide) ?_
  obtain ⟨M_1, eM_1, h⟩ := ltv_ex h
  refine G.putI (k := 0) C k_X10 (sm_67 hE) rfl (by decide) tg_1431 rfl rfl dX10_uneven_2 eM_1 ?_
  refine G.aload_n C 0 dX10_uneven_5 rfl rfl ?_
  refine G.iload_n C 1 dX10_uneven_6 rfl rfl ?_
  refine G.iload_n C 2 dX10_uneven_7 rfl rfl ?_
  obtain ⟨v_3, hv_2, h⟩ := bd_ex h
  refine G.callS (rest := [.ref (eA E 67)]) C (s_X10_isRoom  hv_2) ⟨tg_1889, tg_103, ok_X10_isRoom, Nat.le_of_ble_eq_true rfl, Nat.le_of_ble_eq_true rfl⟩ tg_1887 tg_1888 rfl (Nat.le_of_ble_eq_true rfl) dX10_uneven_8 ⟨Nat.le_refl 0, Nat.le_refl 0⟩ ?_
  refine G.if_ne (tgt := 18) C dX10_uneven_11 (by decide) (fun hc => ?_) (fun hc => ?_)
  · have h := it_f h hc
    refine G.iconst (v := (0 : Int32)) C dX10_uneven_18 (by decide) ?_
    exact G.sub [0, 1, 2] rfl (gb_X10_uneven_67_19 hE C hr  h)
  · have h := it_t h hc
    refine G.iconst (v := (1 : Int32)) C dX10_uneven_14 (by decide) ?_
    refine G.goto (tgt := 19) C dX10_uneven_15 (by decide) ?_
    exact G.sub [0, 1, 2] rfl (gb_X10_uneven_67_19 hE C hr  h)
def f_X10_uneven_67 (x1 : Int32) (x2 : Int32) (M : Mm) : Option (Int32 × Mm) := bb_X10_uneven_67_0 x1 x2 M
theorem s_X10_uneven_67 {l : Launch} {E : Ev} {x1 : Int32} {x2 : Int32} {M : Mm} {v : Int32} {M' : Mm} (hE : Has shM (eH E)) (h : f_X10_uneven_67 x1 x2 M = some (v, M')) : MetA l yX10_uneven cX10_uneven 3 (some .int) 6 E [.ref (eA E 67), .int x1, .int x2] M (some (.int v)) M' := by
  refine MetA.of (by decide +kernel) (Nat.le_of_ble_eq_true rfl) ?_
  intro p e s m below meth c C hr hnm
  exact G.sub [0, 1, 2] rfl (gb_X10_uneven_67_0 hE C hr  h)
def bb_X10_even_67_57 (k_43 : Int32 → Int32 → Int32 → Int32 → Int32 → Int32 → Mm → Option (Int32 × Mm)) (k_57 : Int32 → Int32 → Int32 → Int32 → Int32 → Int32 → Int32 → Mm → Option (Int32 × Mm)) (x1 : Int32) (x2 : Int32) (x3 : Int32) (x4 : Int32) (x5 : Int32) (x6 : Int32) (x7 : Int32) (M : Mm) : Option (Int32 × Mm) := gd (inb x6 6) (if (M.1 88 (ix x6)) ≤ x7 then (ltv (x6 + (1 : Int32)) fun x6_17 => k_43 x1 x2 x3 x4 x5 x6_17 M) else (gd (inb x6 6) (gd (inb x7 8) (ltv (x2 ||| (shI (1 : Int32) (M.1 (81 + ix x6) (ix x7)))) fun x2_21 => ltv (x7 + (1 : Int32)) fun x7_22 => k_57 x1 x2_21 x3 x4 x5 x6 x7_22 M))))
set_option maxHeartbeats 4000000 in
set_option maxRecDepth 100000 in
theorem gb_X10_even_67_57  {k_43 : Int32 → Int32 → Int32 → Int32 → Int32 → Int32 → Mm → Option (Int32 × Mm)} {k_57 : Int32 → Int32 → Int32 → Int32 → Int32 → Int32 → Int32 → Mm → Option (Int32 × Mm)} {x1 : Int32} {x2 : Int32} {x3 : Int32} {x4 : Int32} {x5 : Int32} {x6 : Int32} {x7 : Int32} {M : Mm} {v : Int32} {M' : Mm} (hE : Has shM (eH E)) (C : Cx RX10 cX10_even 11 p (rmD 6) s m args meth c E) (hr : meth.sig.returnType = (some .int)) (hk_43 : ∀ (x1 : Int32) (x2 : Int32) (x3 : Int32) (x4 : Int32) (x5 : Int32) (x6 : Int32) (M : Mm), k_43 x1 x2 x3 x4 x5 x6 M = some (v, M') → G p l e (rmD 6) s m args below meth c E 11 0 0 (QR below args s E 0 0 (some (.int v)) M') 43 [(0, .ref (eA E 67)), (1, .int x1), (2, .int x2), (3, .int x3), (4, .int x4), (5, .int x5), (6, .int x6)] [] M) (hk_57 : ∀ (x1 : Int32) (x2 : Int32) (x3 : Int32) (x4 : Int32) (x5 : Int32) (x6 : Int32) (x7 : Int32) (M : Mm), k_57 x1 x2 x3 x4 x5 x6 x7 M = some (v, M') → G p l e (rmD 6) s m args below meth c E 11 0 0 (QR below args s E 0 0 (some (.int v)) M') 57 [(0, .ref (eA E 67)), (1, .int x1), (2, .int x2), (3, .int x3), (4, .int x4), (5, .int x5), (6, .int x6), (7, .int x7)] [] M) (h : bb_X10_even_67_57 k_43 k_57 x1 x2 x3 x4 x5 x6 x7 M = some (v, M')) : G p l e (rmD 6) s m args below meth c E 11 0 0 (QR below args s E 0 0 (some (.int v)) M') 57 [(0, .ref (eA E 67)), (1, .int x1), (2, .int x2), (3, .int x3), (4, .int x4), (5, .int x5), (6, .int x6), (7, .int x7)] [] M := by
  unfold bb_X10_even_67_57 at h
  refine G.iload C 7 dX10_even_57 rfl ?_
  refine G.aload_n C 0 dX10_even_59 rfl rfl ?_
  refine G.getR (k := 16) C k_X10 (sm_67 hE) rfl (by decide) tg_1447 dX10_even_60 ?_
  refine G.iload C 6 dX10_even_63 rfl ?_
  obtain ⟨hg_16, h⟩ := gd_ex h
  refine G.aI (j := ix x6) C (sm_88 hE) hg_16 rfl dX10_even_65 ?_
  refine G.icmp_ge (tgt := 90) C dX10_even_66 (by decide) (fun hc => ?_) (fun hc => ?_)
  · have h := it_t h hc
    obtain ⟨x6_17, ex6_17, h⟩ := ltv_ex h
    refine G.iinc (L' := [(6, .int x6_17), (0, .ref (eA E 67)), (1, .int x1), (2, .int x2), (3, .int x3), (4, .int x4), (5, .int x5), (7, .int x7)]) C 6 dX10_even_90 rfl (ex6_17.trans rfl) (by decide) rfl ?_
    refine G.goto (tgt := 43) C dX10_even_93 (by decide) ?_
    exact G.sub [1, 2, 3, 4, 5, 6, 0] rfl (hk_43 _ _ _ _ _ _ _  h)
  · have h := it_f h hc
    refine G.iload_n C 2 dX10_even_69 rfl rfl ?_
    refine G.iconst (v := (1 : Int32)) C dX10_even_70 (by decide) ?_
    refine G.aload_n C 0 dX10_even_71 rfl rfl ?_
    refine G.getR (k := 14) C k_X10 (sm_67 hE) rfl (by decide) tg_1445 dX10_even_72 ?_
    refine G.iload C 6 dX10_even_75 rfl ?_
    obtain ⟨hg_18, h⟩ := gd_ex h
    refine aald_q (k := 1) (t := 81 + ix x6) (ty := .array .int) C (sm_80 hE) rfl rfl hg_18 (rowE_80 hg_18) dX10_even_77 ?_
    have hq_19 := rowS_80 hE hg_18
    refine G.iload C 7 dX10_even_78 rfl ?_
    obtain ⟨hg_20, h⟩ := gd_ex h
    refine G.aI (j := ix x7) C (hq_19) hg_20 rfl dX10_even_80 ?_
    refine G.isl C dX10_even_81 ?_
    refine G.ior C dX10_even_82 ?_
    obtain ⟨x2_21, ex2_21, h⟩ := ltv_ex h
    refine G.istore_n (L' := [(2, .int x2_21), (0, .ref (eA E 67)), (1, .int x1), (3, .int x3), (4, .int x4), (5, .int x5), (6, .int x6), (7, .int x7)]) C dX10_even_83 rfl ex2_21 (by decide) rfl ?_
    obtain ⟨x7_22, ex7_22, h⟩ := ltv_ex h
    refine G.iinc (L' := [(7, .int x7_22), (2, .int x2_21), (0, .ref (eA E 67)), (1, .int x1), (3, .int x3), (4, .int x4), (5, .int x5), (6, .int x6)]) C 7 dX10_even_84 rfl (ex7_22.trans rfl) (by decide) rfl ?_
    refine G.goto (tgt := 57) C dX10_even_87 (by decide) ?_
    exact G.sub [2, 3, 1, 4, 5, 6, 7, 0] rfl (hk_57 _ _ _ _ _ _ _ _  h)
def b_X10_even_67_57 (k_43 : Int32 → Int32 → Int32 → Int32 → Int32 → Int32 → Mm → Option (Int32 × Mm)) : Nat → Int32 → Int32 → Int32 → Int32 → Int32 → Int32 → Int32 → Mm → Option (Int32 × Mm)
  | 0, _, _, _, _, _, _, _, _ => none
  | n + 1, x1, x2, x3, x4, x5, x6, x7, M => bb_X10_even_67_57 k_43 (b_X10_even_67_57 k_43 n) x1 x2 x3 x4 x5 x6 x7 M
set_option maxHeartbeats 4000000 in
theorem g_X10_even_67_57  {k_43 : Int32 → Int32 → Int32 → Int32 → Int32 → Int32 → Mm → Option (Int32 × Mm)} {n : Nat} {x1 : Int32} {x2 : Int32} {x3 : Int32} {x4 : Int32} {x5 : Int32} {x6 : Int32} {x7 : Int32} {M : Mm} {v : Int32} {M' : Mm} (hE : Has shM (eH E)) (C : Cx RX10 cX10_even 11 p (rmD 6) s m args meth c E) (hr : meth.sig.returnType = (some .int)) (hk_43 : ∀ (x1 : Int32) (x2 : Int32) (x3 : Int32) (x4 : Int32) (x5 : Int32) (x6 : Int32) (M : Mm), k_43 x1 x2 x3 x4 x5 x6 M = some (v, M') → G p l e (rmD 6) s m args below meth c E 11 0 0 (QR below args s E 0 0 (some (.int v)) M') 43 [(0, .ref (eA E 67)), (1, .int x1), (2, .int x2), (3, .int x3), (4, .int x4), (5, .int x5), (6, .int x6)] [] M) (h : b_X10_even_67_57 k_43 n x1 x2 x3 x4 x5 x6 x7 M = some (v, M')) : G p l e (rmD 6) s m args below meth c E 11 0 0 (QR below args s E 0 0 (some (.int v)) M') 57 [(0, .ref (eA E 67)), (1, .int x1), (2, .int x2), (3, .int x3), (4, .int x4), (5, .int x5), (6, .int x6), (7, .int x7)] [] M := by
  induction n generalizing x1 x2 x3 x4 x5 x6 x7 M with
  | zero => cases h
  | succ n ih => exact gb_X10_even_67_57 hE C hr hk_43 (fun _ _ _ _ _ _ _ _ => ih)  h
def bb_X10_even_67_163 (k_144 : Int32 → Int32 → Int32 → Int32 → Int32 → Mm → Option (Int32 × Mm)) (k_163 : Int32 → Int32 → Int32 → Int32 → Int32 → Int32 → Int32 → Int32 → Int32 → Mm → Option (Int32 × Mm)) (x2 : Int32) (x3 : Int32) (x4 : Int32) (x5 : Int32) (x6 : Int32) (x7 : Int32) (x8 : Int32) (x9 : Int32) (x10 : Int32) (M : Mm) : Option (Int32 × Mm) := if (10 : Int32) ≤ x10 then (bd (f_X10_unevenBy_67 x7 M) fun v_24 => if x5 = (-1 : Int32) then (ltv (x6 + (1 : Int32)) fun x6_25 => k_144 x2 x3 x7 v_24 x6_25 M) else (if v_24 < x5 then (ltv (x6 + (1 : Int32)) fun x6_26 => k_144 x2 x3 x7 v_24 x6_26 M) else (ltv (x6 + (1 : Int32)) fun x6_27 => k_144 x2 x3 x4 x5 x6_27 M))) else (if ((shrI x2 x10) &&& (1 : Int32)) = (1 : Int32) then (ltv (x7 + (x8 * (rmI x9 (5 : Int32)))) fun x7_30 => ltv (x9 / (5 : Int32)) fun x9_31 => ltv (x8 * (5 : Int32)) fun x8_32 => ltv (x10 + (1 : Int32)) fun x10_33 => k_163 x2 x3 x4 x5 x6 x7_30 x8_32 x9_31 x10_33 M) else (ltv (x8 * (5 : Int32)) fun x8_28 => ltv (x10 + (1 : Int32)) fun x10_29 => k_163 x2 x3 x4 x5 x6 x7 x8_28 x9 x10_29 M))
set_option maxHeartbeats 4000000 in
set_option maxRecDepth 100000 in
theorem gb_X10_even_67_163  {k_144 : Int32 → Int32 → Int32 → Int32 → Int32 → Mm → Option (Int32 × Mm)} {k_163 : Int32 → Int32 → Int32 → Int32 → Int32 → Int32 → Int32 → Int32 → Int32 → Mm → Option (Int32 × Mm)} {x2 : Int32} {x3 : Int32} {x4 : Int32} {x5 : Int32} {x6 : Int32} {x7 : Int32} {x8 : Int32} {x9 : Int32} {x10 : Int32} {M : Mm} {v : Int32} {M' : Mm} (hE : Has shM (eH E)) (C : Cx RX10 cX10_even 11 p (rmD 6) s m args meth c E) (hr : meth.sig.returnType = (some .int)) (hk_144 : ∀ (x2 : Int32) (x3 : Int32) (x4 : Int32) (x5 : Int32) (x6 : Int32) (M : Mm), k_144 x2 x3 x4 x5 x6 M = some (v, M') → G p l e (rmD 6) s m args below meth c E 11 0 0 (QR below args s E 0 0 (some (.int v)) M') 144 [(0, .ref (eA E 67)), (2, .int x2), (3, .int x3), (4, .int x4), (5, .int x5), (6, .int x6)] [] M) (hk_163 : ∀ (x2 : Int32) (x3 : Int32) (x4 : Int32) (x5 : Int32) (x6 : Int32) (x7 : Int32) (x8 : Int32) (x9 : Int32) (x10 : Int32) (M : Mm), k_163 x2 x3 x4 x5 x6 x7 x8 x9 x10 M = some (v, M') → G p l e (rmD 6) s m args below meth c E 11 0 0 (QR below args s E 0 0 (some (.int v)) M') 163 [(0, .ref (eA E 67)), (2, .int x2), (3, .int x3), (4, .int x4), (5, .int x5), (6, .int x6), (7, .int x7), (8, .int x8), (9, .int x9), (10, .int x10)] [] M) (h : bb_X10_even_67_163 k_144 k_163 x2 x3 x4 x5 x6 x7 x8 x9 x10 M = some (v, M')) : G p l e (rmD 6) s m args below meth c E 11 0 0 (QR below args s E 0 0 (some (.int v)) M') 163 [(0, .ref (eA E 67)), (2, .int x2), (3, .int x3), (4, .int x4), (5, .int x5), (6, .int x6), (7, .int x7), (8, .int x8), (9, .int x9), (10, .int x10)] [] M := by
  unfold bb_X10_even_67_163 at h
  refine G.iload C 9 dX10_even_163 rfl ?_
  refine G.bipush (v := (10 : Int32)) C dX10_even_165 (by decide) ?_
  refine G.icmp_ge (tgt := 210) C dX10_even_167 (by decide) (fun hc => ?_) (fun hc => ?_)
  · have h := it_t h hc
    refine G.aload_n C 0 dX10_even_210 rfl rfl ?_
    refine G.iload C 6 dX10_even_211 rfl ?_
    obtain ⟨v_24, hv_23, h⟩ := bd_ex h
    refine G.callV (rest := []) C (s_X10_unevenBy_67 hE  hv_23) ⟨tg_1909, tg_103, ok_X10_unevenBy, Nat.le_of_ble_eq_true rfl, Nat.le_of_ble_eq_true rfl⟩ tg_1906 tg_1908 tg_83 (sm_67 hE) rfl rfl (Nat.le_of_ble_eq_true rfl) dX10_even_213 ⟨Nat.le_refl 0, Nat.le_refl 0⟩ ?_
    refine G.istore (L' := [(10, .int v_24), (0, .ref (eA E 67)), (2, .int x2), (3, .int x3), (4, .int x4), (5, .int x5), (6, .int x6), (7, .int x7), (8, .int x8), (9, .int x9)]) C dX10_even_216 rfl (by decide) rfl ?_
    refine G.iload C 5 dX10_even_218 rfl ?_
    refine G.iconst (v := (-1 : Int32)) C dX10_even_220 (by decide) ?_
    refine G.icmp_eq (tgt := 234) C dX10_even_221 (by decide) (fun hc => ?_) (fun hc => ?_)
    · have h := it_t h hc
      refine G.iload C 7 dX10_even_234 rfl ?_
      refine G.istore (L' := [(4, .int x7), (10, .int v_24), (0, .ref (eA E 67)), (2, .int x2), (3, .int x3), (5, .int x5), (6, .int x6), (7, .int x7), (8, .int x8), (9, .int x9)]) C dX10_even_236 rfl (by decide) rfl ?_
      refine G.iload C 1 dX10_even_238 rfl ?_
      refine G.istore (L' := [(5, .int v_24), (4, .int x7), (10, .int v_24), (0, .ref (eA E 67)), (2, .int x2), (3, .int x3), (6, .int x6), (7, .int x7), (8, .int x8), (9, .int x9)]) C dX10_even_240 rfl (by decide) rfl ?_
      obtain ⟨x6_25, ex6_25, h⟩ := ltv_ex h
      refine G.iinc (L' := [(6, .int x6_25), (5, .int v_24), (4, .int x7), (10, .int v_24), (0, .ref (eA E 67)), (2, .int x2), (3, .int x3), (7, .int x7), (8, .int x8), (9, .int x9)]) C 6 dX10_even_242 rfl (ex6_25.trans rfl) (by decide) rfl ?_
      refine G.goto (tgt := 144) C dX10_even_245 (by decide) ?_
      exact G.sub [4, 5, 6, 2, 1, 0] rfl (hk_144 _ _ _ _ _ _  h)
    · have h := it_f h hc
      refine G.iload C 0 dX10_even_224 rfl ?_
      refine G.iload C 5 dX10_even_226 rfl ?_
      refine G.icmp_lt (tgt := 234) C dX10_even_228 (by decide) (fun hc => ?_) (fun hc => ?_)
      · have h := it_t h hc
        refine G.iload C 7 dX10_even_234 rfl ?_
        refine G.istore (L' := [(4, .int x7), (10, .int v_24), (0, .ref (eA E 67)), (2, .int x2), (3, .int x3), (5, .int x5), (6, .int x6), (7, .int x7), (8, .int x8), (9, .int x9)]) C dX10_even_236 rfl (by decide) rfl ?_
        refine G.iload C 1 dX10_even_238 rfl ?_
        refine G.istore (L' := [(5, .int v_24), (4, .int x7), (10, .int v_24), (0, .ref (eA E 67)), (2, .int x2), (3, .int x3), (6, .int x6), (7, .int x7), (8, .int x8), (9, .int x9)]) C dX10_even_240 rfl (by decide) rfl ?_
        obtain ⟨x6_26, ex6_26, h⟩ := ltv_ex h
        refine G.iinc (L' := [(6, .int x6_26), (5, .int v_24), (4, .int x7), (10, .int v_24), (0, .ref (eA E 67)), (2, .int x2), (3, .int x3), (7, .int x7), (8, .int x8), (9, .int x9)]) C 6 dX10_even_242 rfl (ex6_26.trans rfl) (by decide) rfl ?_
        refine G.goto (tgt := 144) C dX10_even_245 (by decide) ?_
        exact G.sub [4, 5, 6, 2, 1, 0] rfl (hk_144 _ _ _ _ _ _  h)
      · have h := it_f h hc
        refine G.goto (tgt := 242) C dX10_even_231 (by decide) ?_
        obtain ⟨x6_27, ex6_27, h⟩ := ltv_ex h
        refine G.iinc (L' := [(6, .int x6_27), (10, .int v_24), (0, .ref (eA E 67)), (2, .int x2), (3, .int x3), (4, .int x4), (5, .int x5), (7, .int x7), (8, .int x8), (9, .int x9)]) C 6 dX10_even_242 rfl (ex6_27.trans rfl) (by decide) rfl ?_
        refine G.goto (tgt := 144) C dX10_even_245 (by decide) ?_
        exact G.sub [2, 3, 4, 5, 6, 0] rfl (hk_144 _ _ _ _ _ _  h)
  · have h := it_f h hc
    refine G.iload_n C 1 dX10_even_170 rfl rfl ?_
    refine G.iload C 9 dX10_even_171 rfl ?_
    refine G.isr C dX10_even_173 ?_
    refine G.iconst (v := (1 : Int32)) C dX10_even_174 (by decide) ?_
    refine G.iand C dX10_even_175 ?_
    refine G.iconst (v := (1 : Int32)) C dX10_even_176 (by decide) ?_
    refine G.icmp_ne (tgt := 198) C dX10_even_177 (by decide) (fun hc => ?_) (fun hc => ?_)
    · have h := it_f h hc
      refine G.iload C 7 dX10_even_198 rfl ?_
      refine G.iconst (v := (5 : Int32)) C dX10_even_200 (by decide) ?_
      refine G.imul C dX10_even_201 ?_
      obtain ⟨x8_28, ex8_28, h⟩ := ltv_ex h
      refine G.istore (L' := [(8, .int x8_28), (0, .ref (eA E 67)), (2, .int x2), (3, .int x3), (4, .int x4), (5, .int x5), (6, .int x6), (7, .int x7), (9, .int x9), (10, .int x10)]) C dX10_even_202 ex8_28 (by decide) rfl ?_
      obtain ⟨x10_29, ex10_29, h⟩ := ltv_ex h
      refine G.iinc (L' := [(10, .int x10_29), (8, .int x8_28), (0, .ref (eA E 67)), (2, .int x2), (3, .int x3), (4, .int x4), (5, .int x5), (6, .int x6), (7, .int x7), (9, .int x9)]) C 9 dX10_even_204 rfl (ex10_29.trans rfl) (by decide) rfl ?_
      refine G.goto (tgt := 163) C dX10_even_207 (by decide) ?_
      exact G.sub [2, 3, 4, 5, 6, 7, 8, 1, 9, 0] rfl (hk_163 _ _ _ _ _ _ _ _ _ _  h)
    · have h := it_t h hc
      refine G.iload C 6 dX10_even_180 rfl ?_
      refine G.iload C 7 dX10_even_182 rfl ?_
      refine G.iload C 8 dX10_even_184 rfl ?_
      refine G.iconst (v := (5 : Int32)) C dX10_even_186 (by decide) ?_
      refine G.irm C dX10_even_187 (by decide) ?_
      refine G.imul C dX10_even_188 ?_
      refine G.iadd C dX10_even_189 ?_
      obtain ⟨x7_30, ex7_30, h⟩ := ltv_ex h
      refine G.istore (L' := [(7, .int x7_30), (0, .ref (eA E 67)), (2, .int x2), (3, .int x3), (4, .int x4), (5, .int x5), (6, .int x6), (8, .int x8), (9, .int x9), (10, .int x10)]) C dX10_even_190 ex7_30 (by decide) rfl ?_
      refine G.iload C 8 dX10_even_192 rfl ?_
      refine G.iconst (v := (5 : Int32)) C dX10_even_194 (by decide) ?_
      refine G.idiv C dX10_even_195 (by decide) ?_
      obtain ⟨x9_31, ex9_31, h⟩ := ltv_ex h
      refine G.istore (L' := [(9, .int x9_31), (7, .int x7_30), (0, .ref (eA E 67)), (2, .int x2), (3, .int x3), (4, .int x4), (5, .int x5), (6, .int x6), (8, .int x8), (10, .int x10)]) C dX10_even_196 ex9_31 (by decide) rfl ?_
      refine G.iload C 8 dX10_even_198 rfl ?_
      refine G.iconst (v := (5 : Int32)) C dX10_even_200 (by decide) ?_
      refine G.imul C dX10_even_201 ?_
      obtain ⟨x8_32, ex8_32, h⟩ := ltv_ex h
      refine G.istore (L' := [(8, .int x8_32), (9, .int x9_31), (7, .int x7_30), (0, .ref (eA E 67)), (2, .int x2), (3, .int x3), (4, .int x4), (5, .int x5), (6, .int x6), (10, .int x10)]) C dX10_even_202 ex8_32 (by decide) rfl ?_
      obtain ⟨x10_33, ex10_33, h⟩ := ltv_ex h
      refine G.iinc (L' := [(10, .int x10_33), (8, .int x8_32), (9, .int x9_31), (7, .int x7_30), (0, .ref (eA E 67)), (2, .int x2), (3, .int x3), (4, .int x4), (5, .int x5), (6, .int x6)]) C 9 dX10_even_204 rfl (ex10_33.trans rfl) (by decide) rfl ?_
      refine G.goto (tgt := 163) C dX10_even_207 (by decide) ?_
      exact G.sub [4, 5, 6, 7, 8, 9, 3, 1, 2, 0] rfl (hk_163 _ _ _ _ _ _ _ _ _ _  h)
def b_X10_even_67_163 (k_144 : Int32 → Int32 → Int32 → Int32 → Int32 → Mm → Option (Int32 × Mm)) : Nat → Int32 → Int32 → Int32 → Int32 → Int32 → Int32 → Int32 → Int32 → Int32 → Mm → Option (Int32 × Mm)
  | 0, _, _, _, _, _, _, _, _, _, _ => none
  | n + 1, x2, x3, x4, x5, x6, x7, x8, x9, x10, M => bb_X10_even_67_163 k_144 (b_X10_even_67_163 k_144 n) x2 x3 x4 x5 x6 x7 x8 x9 x10 M
set_option maxHeartbeats 4000000 in
theorem g_X10_even_67_163  {k_144 : Int32 → Int32 → Int32 → Int32 → Int32 → Mm → Option (Int32 × Mm)} {n : Nat} {x2 : Int32} {x3 : Int32} {x4 : Int32} {x5 : Int32} {x6 : Int32} {x7 : Int32} {x8 : Int32} {x9 : Int32} {x10 : Int32} {M : Mm} {v : Int32} {M' : Mm} (hE : Has shM (eH E)) (C : Cx RX10 cX10_even 11 p (rmD 6) s m args meth c E) (hr : meth.sig.returnType = (some .int)) (hk_144 : ∀ (x2 : Int32) (x3 : Int32) (x4 : Int32) (x5 : Int32) (x6 : Int32) (M : Mm), k_144 x2 x3 x4 x5 x6 M = some (v, M') → G p l e (rmD 6) s m args below meth c E 11 0 0 (QR below args s E 0 0 (some (.int v)) M') 144 [(0, .ref (eA E 67)), (2, .int x2), (3, .int x3), (4, .int x4), (5, .int x5), (6, .int x6)] [] M) (h : b_X10_even_67_163 k_144 n x2 x3 x4 x5 x6 x7 x8 x9 x10 M = some (v, M')) : G p l e (rmD 6) s m args below meth c E 11 0 0 (QR below args s E 0 0 (some (.int v)) M') 163 [(0, .ref (eA E 67)), (2, .int x2), (3, .int x3), (4, .int x4), (5, .int x5), (6, .int x6), (7, .int x7), (8, .int x8), (9, .int x9), (10, .int x10)] [] M := by
  induction n generalizing x2 x3 x4 x5 x6 x7 x8 x9 x10 M with
  | zero => cases h
  | succ n ih => exact gb_X10_even_67_163 hE C hr hk_144 (fun _ _ _ _ _ _ _ _ _ _ => ih)  h
def bb_X10_even_67_144 (k_144 : Int32 → Int32 → Int32 → Int32 → Int32 → Mm → Option (Int32 × Mm)) (x2 : Int32) (x3 : Int32) (x4 : Int32) (x5 : Int32) (x6 : Int32) (M : Mm) : Option (Int32 × Mm) := if x3 ≤ x6 then (some (x4, M)) else (b_X10_even_67_163 k_144 FU x2 x3 x4 x5 x6 (0 : Int32) (1 : Int32) x6 (0 : Int32) M)
set_option maxHeartbeats 4000000 in
set_option maxRecDepth 100000 in
theorem gb_X10_even_67_144  {k_144 : Int32 → Int32 → Int32 → Int32 → Int32 → Mm → Option (Int32 × Mm)} {x2 : Int32} {x3 : Int32} {x4 : Int32} {x5 : Int32} {x6 : Int32} {M : Mm} {v : Int32} {M' : Mm} (hE : Has shM (eH E)) (C : Cx RX10 cX10_even 11 p (rmD 6) s m args meth c E) (hr : meth.sig.returnType = (some .int)) (hk_144 : ∀ (x2 : Int32) (x3 : Int32) (x4 : Int32) (x5 : Int32) (x6 : Int32) (M : Mm), k_144 x2 x3 x4 x5 x6 M = some (v, M') → G p l e (rmD 6) s m args below meth c E 11 0 0 (QR below args s E 0 0 (some (.int v)) M') 144 [(0, .ref (eA E 67)), (2, .int x2), (3, .int x3), (4, .int x4), (5, .int x5), (6, .int x6)] [] M) (h : bb_X10_even_67_144 k_144 x2 x3 x4 x5 x6 M = some (v, M')) : G p l e (rmD 6) s m args below meth c E 11 0 0 (QR below args s E 0 0 (some (.int v)) M') 144 [(0, .ref (eA E 67)), (2, .int x2), (3, .int x3), (4, .int x4), (5, .int x5), (6, .int x6)] [] M := by
  unfold bb_X10_even_67_144 at h
  refine G.iload C 5 dX10_even_144 rfl ?_
  refine G.iload_n C 2 dX10_even_146 rfl rfl ?_
  refine G.icmp_ge (tgt := 248) C dX10_even_147 (by decide) (fun hc => ?_) (fun hc => ?_)
  · have h := it_t h hc
    refine G.iload C 3 dX10_even_248 rfl ?_
    cases h
    exact G.iret C hr dX10_even_250
  · have h := it_f h hc
    refine G.iconst (v := (0 : Int32)) C dX10_even_150 (by decide) ?_
    refine G.istore (L' := [(7, .int (0 : Int32)), (0, .ref (eA E 67)), (2, .int x2), (3, .int x3), (4, .int x4), (5, .int x5), (6, .int x6)]) C dX10_even_151 rfl (by decide) rfl ?_
    refine G.iconst (v := (1 : Int32)) C dX10_even_153 (by decide) ?_
    refine G.istore (L' := [(8, .int (1 : Int32)), (7, .int (0 : Int32)), (0, .ref (eA E 67)), (2, .int x2), (3, .int x3), (4, .int x4), (5, .int x5), (6, .int x6)]) C dX10_even_154 rfl (by decide) rfl ?_
    refine G.iload C 7 dX10_even_156 rfl ?_
    refine G.istore (L' := [(9, .int x6), (8, .int (1 : Int32)), (7, .int (0 : Int32)), (0, .ref (eA E 67)), (2, .int x2), (3, .int x3), (4, .int x4), (5, .int x5), (6, .int x6)]) C dX10_even_158 rfl (by decide) rfl ?_
    refine G.iconst (v := (0 : Int32)) C dX10_even_160 (by decide) ?_
    refine G.istore (L' := [(10, .int (0 : Int32)), (9, .int x6), (8, .int (1 : Int32)), (7, .int (0 : Int32)), (0, .ref (eA E 67)), (2, .int x2), (3, .int x3), (4, .int x4), (5, .int x5), (6, .int x6)]) C dX10_even_161 rfl (by decide) rfl ?_
    exact G.sub [4, 5, 6, 7, 8, 9, 3, 2, 1, 0] rfl (g_X10_even_67_163 hE C hr hk_144  h)
def b_X10_even_67_144 : Nat → Int32 → Int32 → Int32 → Int32 → Int32 → Mm → Option (Int32 × Mm)
  | 0, _, _, _, _, _, _ => none
  | n + 1, x2, x3, x4, x5, x6, M => bb_X10_even_67_144 (b_X10_even_67_144 n) x2 x3 x4 x5 x6 M
set_option maxHeartbeats 4000000 in
theorem g_X10_even_67_144  {n : Nat} {x2 : Int32} {x3 : Int32} {x4 : Int32} {x5 : Int32} {x6 : Int32} {M : Mm} {v : Int32} {M' : Mm} (hE : Has shM (eH E)) (C : Cx RX10 cX10_even 11 p (rmD 6) s m args meth c E) (hr : meth.sig.returnType = (some .int)) (h : b_X10_even_67_144 n x2 x3 x4 x5 x6 M = some (v, M')) : G p l e (rmD 6) s m args below meth c E 11 0 0 (QR below args s E 0 0 (some (.int v)) M') 144 [(0, .ref (eA E 67)), (2, .int x2), (3, .int x3), (4, .int x4), (5, .int x5), (6, .int x6)] [] M := by
  induction n generalizing x2 x3 x4 x5 x6 M with
  | zero => cases h
  | succ n ih => exact gb_X10_even_67_144 hE C hr (fun _ _ _ _ _ _ => ih)  h
def bb_X10_even_67_111 (k_111 : Int32 → Int32 → Int32 → Int32 → Int32 → Int32 → Mm → Option (Int32 × Mm)) (x1 : Int32) (x2 : Int32) (x3 : Int32) (x4 : Int32) (x5 : Int32) (x6 : Int32) (M : Mm) : Option (Int32 × Mm) := bd (f_X10_ones (x2.toInt64)) fun v_10 => if v_10 ≤ x6 then (gd (inb x1 10) (bd (f_X10_layBlacks_67 (M.1 90 (ix x1)) M) fun M_13 => b_X10_even_67_144 FU x2 x3 x4 x5 (0 : Int32) M_13)) else (ltv (x3 * (5 : Int32)) fun x3_14 => ltv (x6 + (1 : Int32)) fun x6_15 => k_111 x1 x2 x3_14 x4 x5 x6_15 M)
set_option maxHeartbeats 4000000 in
set_option maxRecDepth 100000 in
theorem gb_X10_even_67_111  {k_111 : Int32 → Int32 → Int32 → Int32 → Int32 → Int32 → Mm → Option (Int32 × Mm)} {x1 : Int32} {x2 : Int32} {x3 : Int32} {x4 : Int32} {x5 : Int32} {x6 : Int32} {M : Mm} {v : Int32} {M' : Mm} (hE : Has shM (eH E)) (C : Cx RX10 cX10_even 11 p (rmD 6) s m args meth c E) (hr : meth.sig.returnType = (some .int)) (hk_111 : ∀ (x1 : Int32) (x2 : Int32) (x3 : Int32) (x4 : Int32) (x5 : Int32) (x6 : Int32) (M : Mm), k_111 x1 x2 x3 x4 x5 x6 M = some (v, M') → G p l e (rmD 6) s m args below meth c E 11 0 0 (QR below args s E 0 0 (some (.int v)) M') 111 [(0, .ref (eA E 67)), (1, .int x1), (2, .int x2), (3, .int x3), (4, .int x4), (5, .int x5), (6, .int x6)] [] M) (h : bb_X10_even_67_111 k_111 x1 x2 x3 x4 x5 x6 M = some (v, M')) : G p l e (rmD 6) s m args below meth c E 11 0 0 (QR below args s E 0 0 (some (.int v)) M') 111 [(0, .ref (eA E 67)), (1, .int x1), (2, .int x2), (3, .int x3), (4, .int x4), (5, .int x5), (6, .int x6)] [] M := by
  unfold bb_X10_even_67_111 at h
  refine G.iload C 6 dX10_even_111 rfl ?_
  refine G.iload_n C 2 dX10_even_113 rfl rfl ?_
  refine G.i2l (v := x2.toInt64) C dX10_even_114 rfl ?_
  obtain ⟨v_10, hv_9, h⟩ := bd_ex h
  refine G.callS (rest := [.int x6]) C (s_X10_ones  hv_9) ⟨tg_1706, tg_103, ok_X10_ones, Nat.le_of_ble_eq_true rfl, Nat.le_of_ble_eq_true rfl⟩ tg_1704 tg_1705 rfl (Nat.le_of_ble_eq_true rfl) dX10_even_115 ⟨Nat.le_refl 0, Nat.le_refl 0⟩ ?_
  refine G.icmp_ge (tgt := 131) C dX10_even_118 (by decide) (fun hc => ?_) (fun hc => ?_)
  · have h := it_t h hc
    refine G.aload_n C 0 dX10_even_131 rfl rfl ?_
    refine G.aload_n C 0 dX10_even_132 rfl rfl ?_
    refine G.getR (k := 18) C k_X10 (sm_67 hE) rfl (by decide) tg_1449 dX10_even_133 ?_
    refine G.iload_n C 1 dX10_even_136 rfl rfl ?_
    obtain ⟨hg_11, h⟩ := gd_ex h
    refine G.aI (j := ix x1) C (sm_90 hE) hg_11 rfl dX10_even_137 ?_
    obtain ⟨M_13, hv_12, h⟩ := bd_ex h
    refine G.callV (rest := []) C (s_X10_layBlacks_67 hE  hv_12) ⟨tg_1894, tg_103, ok_X10_layBlacks, Nat.le_of_ble_eq_true rfl, Nat.le_of_ble_eq_true rfl⟩ tg_1891 tg_1893 tg_81 (sm_67 hE) rfl rfl (Nat.le_of_ble_eq_true rfl) dX10_even_138 ⟨Nat.le_refl 0, Nat.le_refl 0⟩ ?_
    refine G.iconst (v := (0 : Int32)) C dX10_even_141 (by decide) ?_
    refine G.istore (L' := [(6, .int (0 : Int32)), (0, .ref (eA E 67)), (1, .int x1), (2, .int x2), (3, .int x3), (4, .int x4), (5, .int x5)]) C dX10_even_142 rfl (by decide) rfl ?_
    exact G.sub [1, 3, 4, 5, 6, 0] rfl (g_X10_even_67_144 hE C hr  h)
  · have h := it_f h hc
    refine G.iload_n C 3 dX10_even_121 rfl rfl ?_
    refine G.iconst (v := (5 : Int32)) C dX10_even_122 (by decide) ?_
    refine G.imul C dX10_even_123 ?_
    obtain ⟨x3_14, ex3_14, h⟩ := ltv_ex h
    refine G.istore_n (L' := [(3, .int x3_14), (0, .ref (eA E 67)), (1, .int x1), (2, .int x2), (4, .int x4), (5, .int x5), (6, .int x6)]) C dX10_even_124 rfl ex3_14 (by decide) rfl ?_
    obtain ⟨x6_15, ex6_15, h⟩ := ltv_ex h
    refine G.iinc (L' := [(6, .int x6_15), (3, .int x3_14), (0, .ref (eA E 67)), (1, .int x1), (2, .int x2), (4, .int x4), (5, .int x5)]) C 6 dX10_even_125 rfl (ex6_15.trans rfl) (by decide) rfl ?_
    refine G.goto (tgt := 111) C dX10_even_128 (by decide) ?_
    exact G.sub [2, 3, 4, 1, 5, 6, 0] rfl (hk_111 _ _ _ _ _ _ _  h)
def b_X10_even_67_111 : Nat → Int32 → Int32 → Int32 → Int32 → Int32 → Int32 → Mm → Option (Int32 × Mm)
  | 0, _, _, _, _, _, _, _ => none
  | n + 1, x1, x2, x3, x4, x5, x6, M => bb_X10_even_67_111 (b_X10_even_67_111 n) x1 x2 x3 x4 x5 x6 M
set_option maxHeartbeats 4000000 in
theorem g_X10_even_67_111  {n : Nat} {x1 : Int32} {x2 : Int32} {x3 : Int32} {x4 : Int32} {x5 : Int32} {x6 : Int32} {M : Mm} {v : Int32} {M' : Mm} (hE : Has shM (eH E)) (C : Cx RX10 cX10_even 11 p (rmD 6) s m args meth c E) (hr : meth.sig.returnType = (some .int)) (h : b_X10_even_67_111 n x1 x2 x3 x4 x5 x6 M = some (v, M')) : G p l e (rmD 6) s m args below meth c E 11 0 0 (QR below args s E 0 0 (some (.int v)) M') 111 [(0, .ref (eA E 67)), (1, .int x1), (2, .int x2), (3, .int x3), (4, .int x4), (5, .int x5), (6, .int x6)] [] M := by
  induction n generalizing x1 x2 x3 x4 x5 x6 M with
  | zero => cases h
  | succ n ih => exact gb_X10_even_67_111 hE C hr (fun _ _ _ _ _ _ _ => ih)  h
def bb_X10_even_67_43 (k_43 : Int32 → Int32 → Int32 → Int32 → Int32 → Int32 → Mm → Option (Int32 × Mm)) (x1 : Int32) (x2 : Int32) (x3 : Int32) (x4 : Int32) (x5 : Int32) (x6 : Int32) (M : Mm) : Option (Int32 × Mm) := if (M.1 70 1) ≤ x6 then (bd (f_X10_ones (x2.toInt64)) fun v_8 => if v_8 ≤ (6 : Int32) then (b_X10_even_67_111 FU x1 x2 x3 x4 x5 (0 : Int32) M) else (some ((-1 : Int32), M))) else (b_X10_even_67_57 k_43 FU x1 x2 x3 x4 x5 x6 (0 : Int32) M)
set_option maxHeartbeats 4000000 in
set_option maxRecDepth 100000 in
theorem gb_X10_even_67_43  {k_43 : Int32 → Int32 → Int32 → Int32 → Int32 → Int32 → Mm → Option (Int32 × Mm)} {x1 : Int32} {x2 : Int32} {x3 : Int32} {x4 : Int32} {x5 : Int32} {x6 : Int32} {M : Mm} {v : Int32} {M' : Mm} (hE : Has shM (eH E)) (C : Cx RX10 cX10_even 11 p (rmD 6) s m args meth c E) (hr : meth.sig.returnType = (some .int)) (hk_43 : ∀ (x1 : Int32) (x2 : Int32) (x3 : Int32) (x4 : Int32) (x5 : Int32) (x6 : Int32) (M : Mm), k_43 x1 x2 x3 x4 x5 x6 M = some (v, M') → G p l e (rmD 6) s m args below meth c E 11 0 0 (QR below args s E 0 0 (some (.int v)) M') 43 [(0, .ref (eA E 67)), (1, .int x1), (2, .int x2), (3, .int x3), (4, .int x4), (5, .int x5), (6, .int x6)] [] M) (h : bb_X10_even_67_43 k_43 x1 x2 x3 x4 x5 x6 M = some (v, M')) : G p l e (rmD 6) s m args below meth c E 11 0 0 (QR below args s E 0 0 (some (.int v)) M') 43 [(0, .ref (eA E 67)), (1, .int x1), (2, .int x2), (3, .int x3), (4, .int x4), (5, .int x5), (6, .int x6)] [] M := by
  unfold bb_X10_even_67_43 at h
  refine G.iload C 6 dX10_even_43 rfl ?_
  refine G.aload_n C 0 dX10_even_45 rfl rfl ?_
  refine G.getR (k := 10) C k_X10 (sm_67 hE) rfl (by decide) tg_1441 dX10_even_46 ?_
  refine G.iconst (v := (1 : Int32)) C dX10_even_49 (by decide) ?_
  refine G.aI (j := 1) C (sm_70 hE) (by decide) (by decide) dX10_even_50 ?_
  refine G.icmp_ge (tgt := 96) C dX10_even_51 (by decide) (fun hc => ?_) (fun hc => ?_)
  · have h := it_t h hc
    refine G.iload_n C 2 dX10_even_96 rfl rfl ?_
    refine G.i2l (v := x2.toInt64) C dX10_even_97 rfl ?_
    obtain ⟨v_8, hv_7, h⟩ := bd_ex h
    refine G.callS (rest := []) C (s_X10_ones  hv_7) ⟨tg_1706, tg_103, ok_X10_ones, Nat.le_of_ble_eq_true rfl, Nat.le_of_ble_eq_true rfl⟩ tg_1704 tg_1705 rfl (Nat.le_of_ble_eq_true rfl) dX10_even_98 ⟨Nat.le_refl 0, Nat.le_refl 0⟩ ?_
    refine G.bipush (v := (6 : Int32)) C dX10_even_101 (by decide) ?_
    refine G.icmp_le (tgt := 108) C dX10_even_103 (by decide) (fun hc => ?_) (fun hc => ?_)
    · have h := it_t h hc
      refine G.iconst (v := (0 : Int32)) C dX10_even_108 (by decide) ?_
      refine G.istore (L' := [(6, .int (0 : Int32)), (0, .ref (eA E 67)), (1, .int x1), (2, .int x2), (3, .int x3), (4, .int x4), (5, .int x5)]) C dX10_even_109 rfl (by decide) rfl ?_
      exact G.sub [1, 2, 3, 4, 5, 6, 0] rfl (g_X10_even_67_111 hE C hr  h)
    · have h := it_f h hc
      refine G.iconst (v := (-1 : Int32)) C dX10_even_106 (by decide) ?_
      cases h
      exact G.iret C hr dX10_even_107
  · have h := it_f h hc
    refine G.iconst (v := (0 : Int32)) C dX10_even_54 (by decide) ?_
    refine G.istore (L' := [(7, .int (0 : Int32)), (0, .ref (eA E 67)), (1, .int x1), (2, .int x2), (3, .int x3), (4, .int x4), (5, .int x5), (6, .int x6)]) C dX10_even_55 rfl (by decide) rfl ?_
    exact G.sub [1, 2, 3, 4, 5, 6, 7, 0] rfl (g_X10_even_67_57 hE C hr hk_43  h)
def b_X10_even_67_43 : Nat → Int32 → Int32 → Int32 → Int32 → Int32 → Int32 → Mm → Option (Int32 × Mm)
  | 0, _, _, _, _, _, _, _ => none
  | n + 1, x1, x2, x3, x4, x5, x6, M => bb_X10_even_67_43 (b_X10_even_67_43 n) x1 x2 x3 x4 x5 x6 M
set_option maxHeartbeats 4000000 in
theorem g_X10_even_67_43  {n : Nat} {x1 : Int32} {x2 : Int32} {x3 : Int32} {x4 : Int32} {x5 : Int32} {x6 : Int32} {M : Mm} {v : Int32} {M' : Mm} (hE : Has shM (eH E)) (C : Cx RX10 cX10_even 11 p (rmD 6) s m args meth c E) (hr : meth.sig.returnType = (some .int)) (h : b_X10_even_67_43 n x1 x2 x3 x4 x5 x6 M = some (v, M')) : G p l e (rmD 6) s m args below meth c E 11 0 0 (QR below args s E 0 0 (some (.int v)) M') 43 [(0, .ref (eA E 67)), (1, .int x1), (2, .int x2), (3, .int x3), (4, .int x4), (5, .int x5), (6, .int x6)] [] M := by
  induction n generalizing x1 x2 x3 x4 x5 x6 M with
  | zero => cases h
  | succ n ih => exact gb_X10_even_67_43 hE C hr (fun _ _ _ _ _ _ _ => ih)  h
def bb_X10_even_67_21 (x1 : Int32) (s1 : Int32) (M : Mm) : Option (Int32 × Mm) := bd2 (f_X10_bad_67 s1 (1 : Int32) M) fun v_6 M_5 => if v_6 = 0 then (b_X10_even_67_43 FU x1 (0 : Int32) (1 : Int32) (0 : Int32) (-1 : Int32) (0 : Int32) M_5) else (some ((0 : Int32), M_5))
set_option maxHeartbeats 4000000 in
set_option maxRecDepth 100000 in
theorem gb_X10_even_67_21  {x1 : Int32} {s1 : Int32} {M : Mm} {v : Int32} {M' : Mm} (hE : Has shM (eH E)) (C : Cx RX10 cX10_even 11 p (rmD 6) s m args meth c E) (hr : meth.sig.returnType = (some .int)) (h : bb_X10_even_67_21 x1 s1 M = some (v, M')) : G p l e (rmD 6) s m args below meth c E 11 0 0 (QR below args s E 0 0 (some (.int v)) M') 21 [(0, .ref (eA E 67)), (1, .int x1)] [.int s1, .ref (eA E 67)] M := by
  unfold bb_X10_even_67_21 at h
  refine G.iconst (v := (1 : Int32)) C dX10_even_21 (by decide) ?_
  obtain ⟨v_6, M_5, hv_4, h⟩ := bd2_ex h
  refine G.callV (rest := []) C (s_X10_bad_67 hE  hv_4) ⟨tg_1600, tg_103, ok_X10_bad, Nat.le_of_ble_eq_true rfl, Nat.le_of_ble_eq_true rfl⟩ tg_1597 tg_1599 tg_46 (sm_67 hE) rfl rfl (Nat.le_of_ble_eq_true rfl) dX10_even_22 ⟨Nat.le_refl 0, Nat.le_refl 0⟩ ?_
  refine G.if_eq (tgt := 30) C dX10_even_25 (by decide) (fun hc => ?_) (fun hc => ?_)
  · have h := it_t h hc
    refine G.iconst (v := (0 : Int32)) C dX10_even_30 (by decide) ?_
    refine G.istore_n (L' := [(2, .int (0 : Int32)), (0, .ref (eA E 67)), (1, .int x1)]) C dX10_even_31 rfl rfl (by decide) rfl ?_
    refine G.iconst (v := (1 : Int32)) C dX10_even_32 (by decide) ?_
    refine G.istore_n (L' := [(3, .int (1 : Int32)), (2, .int (0 : Int32)), (0, .ref (eA E 67)), (1, .int x1)]) C dX10_even_33 rfl rfl (by decide) rfl ?_
    refine G.iconst (v := (0 : Int32)) C dX10_even_34 (by decide) ?_
    refine G.istore (L' := [(4, .int (0 : Int32)), (3, .int (1 : Int32)), (2, .int (0 : Int32)), (0, .ref (eA E 67)), (1, .int x1)]) C dX10_even_35 rfl (by decide) rfl ?_
    refine G.iconst (v := (-1 : Int32)) C dX10_even_37 (by decide) ?_
    refine G.istore (L' := [(5, .int (-1 : Int32)), (4, .int (0 : Int32)), (3, .int (1 : Int32)), (2, .int (0 : Int32)), (0, .ref (eA E 67)), (1, .int x1)]) C dX10_even_38 rfl (by decide) rfl ?_
    refine G.iconst (v := (0 : Int32)) C dX10_even_40 (by decide) ?_
    refine G.istore (L' := [(6, .int (0 : Int32)), (5, .int (-1 : Int32)), (4, .int (0 : Int32)), (3, .int (1 : Int32)), (2, .int (0 : Int32)), (0, .ref (eA E 67)), (1, .int x1)]) C dX10_even_41 rfl (by decide) rfl ?_
    exact G.sub [5, 6, 4, 3, 2, 1, 0] rfl (g_X10_even_67_43 hE C hr  h)
  · have h := it_f h hc
    refine G.iconst (v := (0 : Int32)) C dX10_even_28 (by decide) ?_
    cases h
    exact G.iret C hr dX10_even_29
def bb_X10_even_67_0 (x1 : Int32) (M : Mm) : Option (Int32 × Mm) := ltv (wI M 67 0 (0 : Int32)) fun M_1 => bd (f_X10_in x1 (1 : Int32) (9 : Int32)) fun v_3 => if v_3 = 0 then (bb_X10_even_67_21 x1 (1 : Int32) M_1) else (bb_X10_even_67_21 x1 (0 : Int32) M_1)
set_option maxHeartbeats 4000000 in
set_option maxRecDepth 100000 in
theorem gb_X10_even_67_0  {x1 : Int32} {M : Mm} {v : Int32} {M' : Mm} (hE : Has shM (eH E)) (C : Cx RX10 cX10_even 11 p (rmD 6) s m args meth c E) (hr : meth.sig.returnType = (some .int)) (h : bb_X10_even_67_0 x1 M = some (v, M')) : G p l e (rmD 6) s m args below meth c E 11 0 0 (QR below args s E 0 0 (some (.int v)) M') 0 [(0, .ref (eA E 67)), (1, .int x1)] [] M := by
  unfold bb_X10_even_67_0 at h
  refine G.aload_n C 0 dX10_even_0 rfl rfl ?_
  refine G.iconst (v := (0 : Int32)) C dX10_even_1 (by decide) ?_
  obtain ⟨M_1, eM_1, h⟩ := ltv_ex h
  refine G.putI (k := 0) C k_X10 (sm_67 hE) rfl (by decide) tg_1431 rfl rfl dX10_even_2 eM_1 ?_
  refine G.aload_n C 0 dX10_even_5 rfl rfl ?_
  refine G.iload_n C 1 dX10_even_6 rfl rfl ?_
  refine G.iconst (v := (1 : Int32)) C dX10_even_7 (by decide) ?_
  refine G.bipush (v := (9 : Int32)) C dX10_even_8 (by decide) ?_
  obtain ⟨v_3, hv_2, h⟩ := bd_ex h
  refine G.callS (rest := [.ref (eA E 67)]) C (s_X10_in  hv_2) ⟨tg_1596, tg_103, ok_X10_in, Nat.le_of_ble_eq_true rfl, Nat.le_of_ble_eq_true rfl⟩ tg_1594 tg_1595 rfl (Nat.le_of_ble_eq_true rfl) dX10_even_10 ⟨Nat.le_refl 0, Nat.le_refl 0⟩ ?_
  refine G.if_ne (tgt := 20) C dX10_even_13 (by decide) (fun hc => ?_) (fun hc => ?_)
  · have h := it_f h hc
    refine G.iconst (v := (0 : Int32)) C dX10_even_20 (by decide) ?_
    exact G.sub [0, 1] rfl (gb_X10_even_67_21 hE C hr  h)
  · have h := it_t h hc
    refine G.iconst (v := (1 : Int32)) C dX10_even_16 (by decide) ?_
    refine G.goto (tgt := 21) C dX10_even_17 (by decide) ?_
    exact G.sub [0, 1] rfl (gb_X10_even_67_21 hE C hr  h)
def f_X10_even_67 (x1 : Int32) (M : Mm) : Option (Int32 × Mm) := bb_X10_even_67_0 x1 M
theorem s_X10_even_67 {l : Launch} {E : Ev} {x1 : Int32} {M : Mm} {v : Int32} {M' : Mm} (hE : Has shM (eH E)) (h : f_X10_even_67 x1 M = some (v, M')) : MetA l yX10_even cX10_even 11 (some .int) 6 E [.ref (eA E 67), .int x1] M (some (.int v)) M' := by
  refine MetA.of (by decide +kernel) (Nat.le_of_ble_eq_true rfl) ?_
  intro p e s m below meth c C hr hnm
  exact G.sub [0, 1] rfl (gb_X10_even_67_0 hE C hr  h)
def bb_X10_amount_0 (x0 : Int32) : Option Int32 := if 0 ≤ x0 then (some x0) else (some (-x0))
set_option maxHeartbeats 4000000 in
set_option maxRecDepth 100000 in
theorem gb_X10_amount_0 {M : Mm}  {x0 : Int32} {v : Int32} (C : Cx RX10 cX10_amount 1 p (rmD 1) s m args meth c E) (hr : meth.sig.returnType = (some .int)) (h : bb_X10_amount_0 x0 = some v) : G p l e (rmD 1) s m args below meth c E 1 0 0 (QR below args s E 0 0 (some (.int v)) M) 0 [(0, .int x0)] [] M := by
  unfold bb_X10_amount_0 at h
  refine G.iload_n C 0 dX10_amount_0 rfl rfl ?_
  refine G.if_ge (tgt := 9) C dX10_amount_1 (by decide) (fun hc => ?_) (fun hc => ?_)
  · have h := it_t h hc
    refine G.iload_n C 0 dX10_amount_9 rfl rfl ?_
    cases h
    exact G.iret C hr dX10_amount_10
  · have h := it_f h hc
    refine G.iload_n C 0 dX10_amount_4 rfl rfl ?_
    refine G.ineg C dX10_amount_5 ?_
    refine G.goto (tgt := 10) C dX10_amount_6 (by decide) ?_
    cases h
    exact G.iret C hr dX10_amount_10
def f_X10_amount (x0 : Int32) : Option Int32 := bb_X10_amount_0 x0
theorem s_X10_amount {l : Launch} {E : Ev} {x0 : Int32} {M : Mm} {v : Int32} (h : f_X10_amount x0 = some v) : MetA l yX10_amount cX10_amount 1 (some .int) 1 E [.int x0] M (some (.int v)) M := by
  refine MetA.of (by decide +kernel) (Nat.le_of_ble_eq_true rfl) ?_
  intro p e s m below meth c C hr hnm
  exact G.sub [0] rfl (gb_X10_amount_0 C hr  h)
def bb_X10_press_67_66 (k_38 : Int32 → Int32 → Int32 → Int32 → Mm → Option (Int32 × Mm)) (k_66 : Int32 → Int32 → Int32 → Int32 → Int32 → Int32 → Mm → Option (Int32 × Mm)) (x1 : Int32) (x2 : Int32) (x3 : Int32) (x4 : Int32) (x5 : Int32) (x6 : Int32) (M : Mm) : Option (Int32 × Mm) := if (M.1 70 1) ≤ x6 then (gd (decide (¬ (M.1 70 1) = 0)) (bd (f_X10_amount ((x5 / (M.1 70 1)) - x1)) fun v_11 => if x2 = (-1 : Int32) then (ltv (x4 + (1 : Int32)) fun x4_12 => k_38 x1 x4 v_11 x4_12 M) else (if v_11 < x3 then (ltv (x4 + (1 : Int32)) fun x4_13 => k_38 x1 x4 v_11 x4_13 M) else (ltv (x4 + (1 : Int32)) fun x4_14 => k_38 x1 x2 x3 x4_14 M)))) else (bd (f_X10_colourOf_67 x6 (0 : Int32) M) fun v_16 => ltv (x5 + v_16) fun x5_17 => ltv (x6 + (1 : Int32)) fun x6_18 => k_66 x1 x2 x3 x4 x5_17 x6_18 M)
set_option maxHeartbeats 4000000 in
set_option maxRecDepth 100000 in
theorem gb_X10_press_67_66  {k_38 : Int32 → Int32 → Int32 → Int32 → Mm → Option (Int32 × Mm)} {k_66 : Int32 → Int32 → Int32 → Int32 → Int32 → Int32 → Mm → Option (Int32 × Mm)} {x1 : Int32} {x2 : Int32} {x3 : Int32} {x4 : Int32} {x5 : Int32} {x6 : Int32} {M : Mm} {v : Int32} {M' : Mm} (hE : Has shM (eH E)) (C : Cx RX10 cX10_press 7 p (rmD 6) s m args meth c E) (hr : meth.sig.returnType = (some .int)) (hk_38 : ∀ (x1 : Int32) (x2 : Int32) (x3 : Int32) (x4 : Int32) (M : Mm), k_38 x1 x2 x3 x4 M = some (v, M') → G p l e (rmD 6) s m args below meth c E 7 0 0 (QR below args s E 0 0 (some (.int v)) M') 38 [(0, .ref (eA E 67)), (1, .int x1), (2, .int x2), (3, .int x3), (4, .int x4)] [] M) (hk_66 : ∀ (x1 : Int32) (x2 : Int32) (x3 : Int32) (x4 : Int32) (x5 : Int32) (x6 : Int32) (M : Mm), k_66 x1 x2 x3 x4 x5 x6 M = some (v, M') → G p l e (rmD 6) s m args below meth c E 7 0 0 (QR below args s E 0 0 (some (.int v)) M') 66 [(0, .ref (eA E 67)), (1, .int x1), (2, .int x2), (3, .int x3), (4, .int x4), (5, .int x5), (6, .int x6)] [] M) (h : bb_X10_press_67_66 k_38 k_66 x1 x2 x3 x4 x5 x6 M = some (v, M')) : G p l e (rmD 6) s m args below meth c E 7 0 0 (QR below args s E 0 0 (some (.int v)) M') 66 [(0, .ref (eA E 67)), (1, .int x1), (2, .int x2), (3, .int x3), (4, .int x4), (5, .int x5), (6, .int x6)] [] M := by
  unfold bb_X10_press_67_66 at h
  refine G.iload C 6 dX10_press_66 rfl ?_
  refine G.aload_n C 0 dX10_press_68 rfl rfl ?_
  refine G.getR (k := 10) C k_X10 (sm_67 hE) rfl (by decide) tg_1441 dX10_press_69 ?_
  refine G.iconst (v := (1 : Int32)) C dX10_press_72 (by decide) ?_
  refine G.aI (j := 1) C (sm_70 hE) (by decide) (by decide) dX10_press_73 ?_
  refine G.icmp_ge (tgt := 95) C dX10_press_74 (by decide) (fun hc => ?_) (fun hc => ?_)
  · have h := it_t h hc
    refine G.iload C 5 dX10_press_95 rfl ?_
    refine G.aload_n C 0 dX10_press_97 rfl rfl ?_
    refine G.getR (k := 10) C k_X10 (sm_67 hE) rfl (by decide) tg_1441 dX10_press_98 ?_
    refine G.iconst (v := (1 : Int32)) C dX10_press_101 (by decide) ?_
    refine G.aI (j := 1) C (sm_70 hE) (by decide) (by decide) dX10_press_102 ?_
    obtain ⟨hn_9, h⟩ := gd_ex h
    refine G.idiv C dX10_press_103 (of_decide_eq_true hn_9) ?_
    refine G.iload_n C 1 dX10_press_104 rfl rfl ?_
    refine G.isub C dX10_press_105 ?_
    obtain ⟨v_11, hv_10, h⟩ := bd_ex h
    refine G.callS (rest := []) C (s_X10_amount  hv_10) ⟨tg_1921, tg_103, ok_X10_amount, Nat.le_of_ble_eq_true rfl, Nat.le_of_ble_eq_true rfl⟩ tg_1919 tg_1920 rfl (Nat.le_of_ble_eq_true rfl) dX10_press_106 ⟨Nat.le_refl 0, Nat.le_refl 0⟩ ?_
    refine G.istore (L' := [(6, .int v_11), (0, .ref (eA E 67)), (1, .int x1), (2, .int x2), (3, .int x3), (4, .int x4), (5, .int x5)]) C dX10_press_109 rfl (by decide) rfl ?_
    refine G.iload_n C 3 dX10_press_111 rfl rfl ?_
    refine G.iconst (v := (-1 : Int32)) C dX10_press_112 (by decide) ?_
    refine G.icmp_eq (tgt := 125) C dX10_press_113 (by decide) (fun hc => ?_) (fun hc => ?_)
    · have h := it_t h hc
      refine G.iload C 5 dX10_press_125 rfl ?_
      refine G.istore_n (L' := [(2, .int x4), (6, .int v_11), (0, .ref (eA E 67)), (1, .int x1), (3, .int x3), (4, .int x4), (5, .int x5)]) C dX10_press_127 rfl rfl (by decide) rfl ?_
      refine G.iload C 1 dX10_press_128 rfl ?_
      refine G.istore_n (L' := [(3, .int v_11), (2, .int x4), (6, .int v_11), (0, .ref (eA E 67)), (1, .int x1), (4, .int x4), (5, .int x5)]) C dX10_press_130 rfl rfl (by decide) rfl ?_
      obtain ⟨x4_12, ex4_12, h⟩ := ltv_ex h
      refine G.iinc (L' := [(4, .int x4_12), (3, .int v_11), (2, .int x4), (6, .int v_11), (0, .ref (eA E 67)), (1, .int x1), (5, .int x5)]) C 5 dX10_press_131 rfl (ex4_12.trans rfl) (by decide) rfl ?_
      refine G.goto (tgt := 38) C dX10_press_134 (by decide) ?_
      exact G.sub [4, 5, 2, 1, 0] rfl (hk_38 _ _ _ _ _  h)
    · have h := it_f h hc
      refine G.iload C 0 dX10_press_116 rfl ?_
      refine G.iload_n C 4 dX10_press_118 rfl rfl ?_
      refine G.icmp_lt (tgt := 125) C dX10_press_119 (by decide) (fun hc => ?_) (fun hc => ?_)
      · have h := it_t h hc
        refine G.iload C 5 dX10_press_125 rfl ?_
        refine G.istore_n (L' := [(2, .int x4), (6, .int v_11), (0, .ref (eA E 67)), (1, .int x1), (3, .int x3), (4, .int x4), (5, .int x5)]) C dX10_press_127 rfl rfl (by decide) rfl ?_
        refine G.iload C 1 dX10_press_128 rfl ?_
        refine G.istore_n (L' := [(3, .int v_11), (2, .int x4), (6, .int v_11), (0, .ref (eA E 67)), (1, .int x1), (4, .int x4), (5, .int x5)]) C dX10_press_130 rfl rfl (by decide) rfl ?_
        obtain ⟨x4_13, ex4_13, h⟩ := ltv_ex h
        refine G.iinc (L' := [(4, .int x4_13), (3, .int v_11), (2, .int x4), (6, .int v_11), (0, .ref (eA E 67)), (1, .int x1), (5, .int x5)]) C 5 dX10_press_131 rfl (ex4_13.trans rfl) (by decide) rfl ?_
        refine G.goto (tgt := 38) C dX10_press_134 (by decide) ?_
        exact G.sub [4, 5, 2, 1, 0] rfl (hk_38 _ _ _ _ _  h)
      · have h := it_f h hc
        refine G.goto (tgt := 131) C dX10_press_122 (by decide) ?_
        obtain ⟨x4_14, ex4_14, h⟩ := ltv_ex h
        refine G.iinc (L' := [(4, .int x4_14), (6, .int v_11), (0, .ref (eA E 67)), (1, .int x1), (2, .int x2), (3, .int x3), (5, .int x5)]) C 5 dX10_press_131 rfl (ex4_14.trans rfl) (by decide) rfl ?_
        refine G.goto (tgt := 38) C dX10_press_134 (by decide) ?_
        exact G.sub [2, 3, 4, 5, 0] rfl (hk_38 _ _ _ _ _  h)
  · have h := it_f h hc
    refine G.iload C 5 dX10_press_77 rfl ?_
    refine G.aload_n C 0 dX10_press_79 rfl rfl ?_
    refine G.iload C 6 dX10_press_80 rfl ?_
    refine G.iconst (v := (0 : Int32)) C dX10_press_82 (by decide) ?_
    obtain ⟨v_16, hv_15, h⟩ := bd_ex h
    refine G.callV (rest := [.int x5]) C (s_X10_colourOf_67 hE  hv_15) ⟨tg_1898, tg_103, ok_X10_colourOf, Nat.le_of_ble_eq_true rfl, Nat.le_of_ble_eq_true rfl⟩ tg_1895 tg_1897 tg_82 (sm_67 hE) rfl rfl (Nat.le_of_ble_eq_true rfl) dX10_press_83 ⟨Nat.le_refl 0, Nat.le_refl 0⟩ ?_
    refine G.iadd C dX10_press_86 ?_
    obtain ⟨x5_17, ex5_17, h⟩ := ltv_ex h
    refine G.istore (L' := [(5, .int x5_17), (0, .ref (eA E 67)), (1, .int x1), (2, .int x2), (3, .int x3), (4, .int x4), (6, .int x6)]) C dX10_press_87 ex5_17 (by decide) rfl ?_
    obtain ⟨x6_18, ex6_18, h⟩ := ltv_ex h
    refine G.iinc (L' := [(6, .int x6_18), (5, .int x5_17), (0, .ref (eA E 67)), (1, .int x1), (2, .int x2), (3, .int x3), (4, .int x4)]) C 6 dX10_press_89 rfl (ex6_18.trans rfl) (by decide) rfl ?_
    refine G.goto (tgt := 66) C dX10_press_92 (by decide) ?_
    exact G.sub [2, 3, 4, 5, 6, 1, 0] rfl (hk_66 _ _ _ _ _ _ _  h)
def b_X10_press_67_66 (k_38 : Int32 → Int32 → Int32 → Int32 → Mm → Option (Int32 × Mm)) : Nat → Int32 → Int32 → Int32 → Int32 → Int32 → Int32 → Mm → Option (Int32 × Mm)
  | 0, _, _, _, _, _, _, _ => none
  | n + 1, x1, x2, x3, x4, x5, x6, M => bb_X10_press_67_66 k_38 (b_X10_press_67_66 k_38 n) x1 x2 x3 x4 x5 x6 M
set_option maxHeartbeats 4000000 in
theorem g_X10_press_67_66  {k_38 : Int32 → Int32 → Int32 → Int32 → Mm → Option (Int32 × Mm)} {n : Nat} {x1 : Int32} {x2 : Int32} {x3 : Int32} {x4 : Int32} {x5 : Int32} {x6 : Int32} {M : Mm} {v : Int32} {M' : Mm} (hE : Has shM (eH E)) (C : Cx RX10 cX10_press 7 p (rmD 6) s m args meth c E) (hr : meth.sig.returnType = (some .int)) (hk_38 : ∀ (x1 : Int32) (x2 : Int32) (x3 : Int32) (x4 : Int32) (M : Mm), k_38 x1 x2 x3 x4 M = some (v, M') → G p l e (rmD 6) s m args below meth c E 7 0 0 (QR below args s E 0 0 (some (.int v)) M') 38 [(0, .ref (eA E 67)), (1, .int x1), (2, .int x2), (3, .int x3), (4, .int x4)] [] M) (h : b_X10_press_67_66 k_38 n x1 x2 x3 x4 x5 x6 M = some (v, M')) : G p l e (rmD 6) s m args below meth c E 7 0 0 (QR below args s E 0 0 (some (.int v)) M') 66 [(0, .ref (eA E 67)), (1, .int x1), (2, .int x2), (3, .int x3), (4, .int x4), (5, .int x5), (6, .int x6)] [] M := by
  induction n generalizing x1 x2 x3 x4 x5 x6 M with
  | zero => cases h
  | succ n ih => exact gb_X10_press_67_66 hE C hr hk_38 (fun _ _ _ _ _ _ _ => ih)  h
def bb_X10_press_67_38 (k_38 : Int32 → Int32 → Int32 → Int32 → Mm → Option (Int32 × Mm)) (x1 : Int32) (x2 : Int32) (x3 : Int32) (x4 : Int32) (M : Mm) : Option (Int32 × Mm) := if (17 : Int32) ≤ x4 then (some (x2, M)) else (if (M.1 70 1) ≤ 0 then (some (x2, M)) else (bd (f_X10_layBlacks_67 x4 M) fun M_8 => b_X10_press_67_66 k_38 FU x1 x2 x3 x4 (0 : Int32) (0 : Int32) M_8))
set_option maxHeartbeats 4000000 in
set_option maxRecDepth 100000 in
theorem gb_X10_press_67_38  {k_38 : Int32 → Int32 → Int32 → Int32 → Mm → Option (Int32 × Mm)} {x1 : Int32} {x2 : Int32} {x3 : Int32} {x4 : Int32} {M : Mm} {v : Int32} {M' : Mm} (hE : Has shM (eH E)) (C : Cx RX10 cX10_press 7 p (rmD 6) s m args meth c E) (hr : meth.sig.returnType = (some .int)) (hk_38 : ∀ (x1 : Int32) (x2 : Int32) (x3 : Int32) (x4 : Int32) (M : Mm), k_38 x1 x2 x3 x4 M = some (v, M') → G p l e (rmD 6) s m args below meth c E 7 0 0 (QR below args s E 0 0 (some (.int v)) M') 38 [(0, .ref (eA E 67)), (1, .int x1), (2, .int x2), (3, .int x3), (4, .int x4)] [] M) (h : bb_X10_press_67_38 k_38 x1 x2 x3 x4 M = some (v, M')) : G p l e (rmD 6) s m args below meth c E 7 0 0 (QR below args s E 0 0 (some (.int v)) M') 38 [(0, .ref (eA E 67)), (1, .int x1), (2, .int x2), (3, .int x3), (4, .int x4)] [] M := by
  unfold bb_X10_press_67_38 at h
  refine G.iload C 4 dX10_press_38 rfl ?_
  refine G.bipush (v := (17 : Int32)) C dX10_press_40 (by decide) ?_
  refine G.icmp_ge (tgt := 137) C dX10_press_42 (by decide) (fun hc => ?_) (fun hc => ?_)
  · have h := it_t h hc
    refine G.iload_n C 2 dX10_press_137 rfl rfl ?_
    cases h
    exact G.iret C hr dX10_press_138
  · have h := it_f h hc
    refine G.aload_n C 0 dX10_press_45 rfl rfl ?_
    refine G.getR (k := 10) C k_X10 (sm_67 hE) rfl (by decide) tg_1441 dX10_press_46 ?_
    refine G.iconst (v := (1 : Int32)) C dX10_press_49 (by decide) ?_
    refine G.aI (j := 1) C (sm_70 hE) (by decide) (by decide) dX10_press_50 ?_
    refine G.if_le (tgt := 137) C dX10_press_51 (by decide) (fun hc => ?_) (fun hc => ?_)
    · have h := it_t h hc
      refine G.iload_n C 2 dX10_press_137 rfl rfl ?_
      cases h
      exact G.iret C hr dX10_press_138
    · have h := it_f h hc
      refine G.aload_n C 0 dX10_press_54 rfl rfl ?_
      refine G.iload C 4 dX10_press_55 rfl ?_
      obtain ⟨M_8, hv_7, h⟩ := bd_ex h
      refine G.callV (rest := []) C (s_X10_layBlacks_67 hE  hv_7) ⟨tg_1894, tg_103, ok_X10_layBlacks, Nat.le_of_ble_eq_true rfl, Nat.le_of_ble_eq_true rfl⟩ tg_1891 tg_1893 tg_81 (sm_67 hE) rfl rfl (Nat.le_of_ble_eq_true rfl) dX10_press_57 ⟨Nat.le_refl 0, Nat.le_refl 0⟩ ?_
      refine G.iconst (v := (0 : Int32)) C dX10_press_60 (by decide) ?_
      refine G.istore (L' := [(5, .int (0 : Int32)), (0, .ref (eA E 67)), (1, .int x1), (2, .int x2), (3, .int x3), (4, .int x4)]) C dX10_press_61 rfl (by decide) rfl ?_
      refine G.iconst (v := (0 : Int32)) C dX10_press_63 (by decide) ?_
      refine G.istore (L' := [(6, .int (0 : Int32)), (5, .int (0 : Int32)), (0, .ref (eA E 67)), (1, .int x1), (2, .int x2), (3, .int x3), (4, .int x4)]) C dX10_press_64 rfl (by decide) rfl ?_
      exact G.sub [2, 3, 4, 5, 6, 1, 0] rfl (g_X10_press_67_66 hE C hr hk_38  h)
def b_X10_press_67_38 : Nat → Int32 → Int32 → Int32 → Int32 → Mm → Option (Int32 × Mm)
  | 0, _, _, _, _, _ => none
  | n + 1, x1, x2, x3, x4, M => bb_X10_press_67_38 (b_X10_press_67_38 n) x1 x2 x3 x4 M
set_option maxHeartbeats 4000000 in
theorem g_X10_press_67_38  {n : Nat} {x1 : Int32} {x2 : Int32} {x3 : Int32} {x4 : Int32} {M : Mm} {v : Int32} {M' : Mm} (hE : Has shM (eH E)) (C : Cx RX10 cX10_press 7 p (rmD 6) s m args meth c E) (hr : meth.sig.returnType = (some .int)) (h : b_X10_press_67_38 n x1 x2 x3 x4 M = some (v, M')) : G p l e (rmD 6) s m args below meth c E 7 0 0 (QR below args s E 0 0 (some (.int v)) M') 38 [(0, .ref (eA E 67)), (1, .int x1), (2, .int x2), (3, .int x3), (4, .int x4)] [] M := by
  induction n generalizing x1 x2 x3 x4 M with
  | zero => cases h
  | succ n ih => exact gb_X10_press_67_38 hE C hr (fun _ _ _ _ _ => ih)  h
def bb_X10_press_67_22 (x1 : Int32) (s1 : Int32) (M : Mm) : Option (Int32 × Mm) := bd2 (f_X10_bad_67 s1 (1 : Int32) M) fun v_6 M_5 => if v_6 = 0 then (b_X10_press_67_38 FU x1 (-1 : Int32) (0 : Int32) (0 : Int32) M_5) else (some ((0 : Int32), M_5))
set_option maxHeartbeats 4000000 in
set_option maxRecDepth 100000 in
theorem gb_X10_press_67_22  {x1 : Int32} {s1 : Int32} {M : Mm} {v : Int32} {M' : Mm} (hE : Has shM (eH E)) (C : Cx RX10 cX10_press 7 p (rmD 6) s m args meth c E) (hr : meth.sig.returnType = (some .int)) (h : bb_X10_press_67_22 x1 s1 M = some (v, M')) : G p l e (rmD 6) s m args below meth c E 7 0 0 (QR below args s E 0 0 (some (.int v)) M') 22 [(0, .ref (eA E 67)), (1, .int x1)] [.int s1, .ref (eA E 67)] M := by
  unfold bb_X10_press_67_22 at h
  refine G.iconst (v := (1 : Int32)) C dX10_press_22 (by decide) ?_
  obtain ⟨v_6, M_5, hv_4, h⟩ := bd2_ex h
  refine G.callV (rest := []) C (s_X10_bad_67 hE  hv_4) ⟨tg_1600, tg_103, ok_X10_bad, Nat.le_of_ble_eq_true rfl, Nat.le_of_ble_eq_true rfl⟩ tg_1597 tg_1599 tg_46 (sm_67 hE) rfl rfl (Nat.le_of_ble_eq_true rfl) dX10_press_23 ⟨Nat.le_refl 0, Nat.le_refl 0⟩ ?_
  refine G.if_eq (tgt := 31) C dX10_press_26 (by decide) (fun hc => ?_) (fun hc => ?_)
  · have h := it_t h hc
    refine G.iconst (v := (-1 : Int32)) C dX10_press_31 (by decide) ?_
    refine G.istore_n (L' := [(2, .int (-1 : Int32)), (0, .ref (eA E 67)), (1, .int x1)]) C dX10_press_32 rfl rfl (by decide) rfl ?_
    refine G.iconst (v := (0 : Int32)) C dX10_press_33 (by decide) ?_
    refine G.istore_n (L' := [(3, .int (0 : Int32)), (2, .int (-1 : Int32)), (0, .ref (eA E 67)), (1, .int x1)]) C dX10_press_34 rfl rfl (by decide) rfl ?_
    refine G.iconst (v := (0 : Int32)) C dX10_press_35 (by decide) ?_
    refine G.istore (L' := [(4, .int (0 : Int32)), (3, .int (0 : Int32)), (2, .int (-1 : Int32)), (0, .ref (eA E 67)), (1, .int x1)]) C dX10_press_36 rfl (by decide) rfl ?_
    exact G.sub [3, 4, 2, 1, 0] rfl (g_X10_press_67_38 hE C hr  h)
  · have h := it_f h hc
    refine G.iconst (v := (0 : Int32)) C dX10_press_29 (by decide) ?_
    cases h
    exact G.iret C hr dX10_press_30
def bb_X10_press_67_0 (x1 : Int32) (M : Mm) : Option (Int32 × Mm) := ltv (wI M 67 0 (0 : Int32)) fun M_1 => bd (f_X10_in x1 (0 : Int32) (99999 : Int32)) fun v_3 => if v_3 = 0 then (bb_X10_press_67_22 x1 (1 : Int32) M_1) else (bb_X10_press_67_22 x1 (0 : Int32) M_1)
set_option maxHeartbeats 4000000 in
set_option maxRecDepth 100000 in
theorem gb_X10_press_67_0  {x1 : Int32} {M : Mm} {v : Int32} {M' : Mm} (hE : Has shM (eH E)) (C : Cx RX10 cX10_press 7 p (rmD 6) s m args meth c E) (hr : meth.sig.returnType = (some .int)) (h : bb_X10_press_67_0 x1 M = some (v, M')) : G p l e (rmD 6) s m args below meth c E 7 0 0 (QR below args s E 0 0 (some (.int v)) M') 0 [(0, .ref (eA E 67)), (1, .int x1)] [] M := by
  unfold bb_X10_press_67_0 at h
  refine G.aload_n C 0 dX10_press_0 rfl rfl ?_
  refine G.iconst (v := (0 : Int32)) C dX10_press_1 (by decide) ?_
  obtain ⟨M_1, eM_1, h⟩ := ltv_ex h
  refine G.putI (k := 0) C k_X10 (sm_67 hE) rfl (by decide) tg_1431 rfl rfl dX10_press_2 eM_1 ?_
  refine G.aload_n C 0 dX10_press_5 rfl rfl ?_
  refine G.iload_n C 1 dX10_press_6 rfl rfl ?_
  refine G.iconst (v := (0 : Int32)) C dX10_press_7 (by decide) ?_
  refine G.ldcw C tg_1918 dX10_press_8 ?_
  obtain ⟨v_3, hv_2, h⟩ := bd_ex h
  refine G.callS (rest := [.ref (eA E 67)]) C (s_X10_in  hv_2) ⟨tg_1596, tg_103, ok_X10_in, Nat.le_of_ble_eq_true rfl, Nat.le_of_ble_eq_true rfl⟩ tg_1594 tg_1595 rfl (Nat.le_of_ble_eq_true rfl) dX10_press_11 ⟨Nat.le_refl 0, Nat.le_refl 0⟩ ?_
  refine G.if_ne (tgt := 21) C dX10_press_14 (by decide) (fun hc => ?_) (fun hc => ?_)
  · have h := it_f h hc
    refine G.iconst (v := (0 : Int32)) C dX10_press_21 (by decide) ?_
    exact G.sub [0, 1] rfl (gb_X10_press_67_22 hE C hr  h)
  · have h := it_t h hc
    refine G.iconst (v := (1 : Int32)) C dX10_press_17 (by decide) ?_
    refine G.goto (tgt := 22) C dX10_press_18 (by decide) ?_
    exact G.sub [0, 1] rfl (gb_X10_press_67_22 hE C hr  h)
def f_X10_press_67 (x1 : Int32) (M : Mm) : Option (Int32 × Mm) := bb_X10_press_67_0 x1 M
theorem s_X10_press_67 {l : Launch} {E : Ev} {x1 : Int32} {M : Mm} {v : Int32} {M' : Mm} (hE : Has shM (eH E)) (h : f_X10_press_67 x1 M = some (v, M')) : MetA l yX10_press cX10_press 7 (some .int) 6 E [.ref (eA E 67), .int x1] M (some (.int v)) M' := by
  refine MetA.of (by decide +kernel) (Nat.le_of_ble_eq_true rfl) ?_
  intro p e s m below meth c C hr hnm
  exact G.sub [0, 1] rfl (gb_X10_press_67_0 hE C hr  h)
end
