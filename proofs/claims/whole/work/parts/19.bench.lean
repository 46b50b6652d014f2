section
variable {p : Program} {l : Launch} {e : Env} {s : State} {m : MethodId} {args : Array Value} {below : List Frame} {meth : Method} {c : Code} {E : Ev}
def bb_X0_wipe_50_0  (M : Mm) : Option Mm := ltv (wI M 50 0 (-1 : Int32)) fun M_1 => ltv (wJ M_1 50 1 (0 : Int64)) fun M_2 => ltv (wI M_2 50 2 (0 : Int32)) fun M_3 => ltv (wI M_3 50 5 (0 : Int32)) fun M_4 => ltv (wI M_4 50 7 (0 : Int32)) fun M_5 => some M_5
set_option maxHeartbeats 4000000 in
set_option maxRecDepth 100000 in
theorem gb_X0_wipe_50_0   {M : Mm} {M' : Mm} (hE : Has shC (eH E)) (C : Cx RX0 cX0_wipe 1 p (rmD 1) s m args meth c E) (hr : meth.sig.returnType = none) (h : bb_X0_wipe_50_0 M = some M') : G p l e (rmD 1) s m args below meth c E 1 0 0 (QR below args s E 0 0 none M') 0 [(0, .ref (eA E 50))] [] M := by
  unfold bb_X0_wipe_50_0 at h
  refine G.aload_n C 0 dX0_wipe_0 rfl rfl ?_
  refine G.iconst (v := (-1 : Int32)) C dX0_wipe_1 (by decide) ?_
  obtain ⟨M_1, eM_1, h⟩ := ltv_ex h
  refine G.putI (k := 0) C k_X0 (sc_50 hE) rfl (by decide) tg_368 rfl rfl dX0_wipe_2 eM_1 ?_
  refine G.aload_n C 0 dX0_wipe_5 rfl rfl ?_
  refine G.lconst (v := (0 : Int64)) C dX0_wipe_6 (by decide) ?_
  obtain ⟨M_2, eM_2, h⟩ := ltv_ex h
  refine G.putJ (k := 1) C k_X0 (sc_50 hE) rfl (by decide) tg_370 rfl rfl dX0_wipe_7 eM_2 ?_
  refine G.aload_n C 0 dX0_wipe_10 rfl rfl ?_
  refine G.iconst (v := (0 : Int32)) C dX0_wipe_11 (by decide) ?_
  obtain ⟨M_3, eM_3, h⟩ := ltv_ex h
  refine G.putZ (k := 2) C k_X0 (sc_50 hE) rfl (by decide) tg_372 rfl rfl (by decide) dX0_wipe_12 eM_3 ?_
  refine G.aload_n C 0 dX0_wipe_15 rfl rfl ?_
  refine G.iconst (v := (0 : Int32)) C dX0_wipe_16 (by decide) ?_
  obtain ⟨M_4, eM_4, h⟩ := ltv_ex h
  refine G.putI (k := 5) C k_X0 (sc_50 hE) rfl (by decide) tg_376 rfl rfl dX0_wipe_17 eM_4 ?_
  refine G.aload_n C 0 dX0_wipe_20 rfl rfl ?_
  refine G.iconst (v := (0 : Int32)) C dX0_wipe_21 (by decide) ?_
  obtain ⟨M_5, eM_5, h⟩ := ltv_ex h
  refine G.putI (k := 7) C k_X0 (sc_50 hE) rfl (by decide) tg_381 rfl rfl dX0_wipe_22 eM_5 ?_
  cases h
  exact G.vret C hr dX0_wipe_25
def f_X0_wipe_50  (M : Mm) : Option Mm := bb_X0_wipe_50_0 M
theorem s_X0_wipe_50 {l : Launch} {E : Ev}  {M : Mm} {M' : Mm} (hE : Has shC (eH E)) (h : f_X0_wipe_50 M = some M') : MetA l yX0_wipe cX0_wipe 1 none 1 E [.ref (eA E 50)] M none M' := by
  refine MetA.of (by decide +kernel) (Nat.le_of_ble_eq_true rfl) ?_
  intro p e s m below meth c C hr hnm
  exact G.sub [0] rfl (gb_X0_wipe_50_0 hE C hr  h)
def bb_X0_takePunch_50_0 (x1 : Int32) (M : Mm) : Option Mm := ltv (wI M 50 0 x1) fun M_1 => ltv (wJ M_1 50 1 (0 : Int64)) fun M_2 => ltv (wI M_2 50 2 (0 : Int32)) fun M_3 => some M_3
set_option maxHeartbeats 4000000 in
set_option maxRecDepth 100000 in
theorem gb_X0_takePunch_50_0  {x1 : Int32} {M : Mm} {M' : Mm} (hE : Has shC (eH E)) (C : Cx RX0 cX0_takePunch 2 p (rmD 1) s m args meth c E) (hr : meth.sig.returnType = none) (h : bb_X0_takePunch_50_0 x1 M = some M') : G p l e (rmD 1) s m args below meth c E 2 0 0 (QR below args s E 0 0 none M') 0 [(0, .ref (eA E 50)), (1, .int x1)] [] M := by
  unfold bb_X0_takePunch_50_0 at h
  refine G.aload_n C 0 dX0_takePunch_0 rfl rfl ?_
  refine G.iload_n C 1 dX0_takePunch_1 rfl rfl ?_
  obtain ⟨M_1, eM_1, h⟩ := ltv_ex h
  refine G.putI (k := 0) C k_X0 (sc_50 hE) rfl (by decide) tg_368 rfl rfl dX0_takePunch_2 eM_1 ?_
  refine G.aload_n C 0 dX0_takePunch_5 rfl rfl ?_
  refine G.lconst (v := (0 : Int64)) C dX0_takePunch_6 (by decide) ?_
  obtain ⟨M_2, eM_2, h⟩ := ltv_ex h
  refine G.putJ (k := 1) C k_X0 (sc_50 hE) rfl (by decide) tg_370 rfl rfl dX0_takePunch_7 eM_2 ?_
  refine G.aload_n C 0 dX0_takePunch_10 rfl rfl ?_
  refine G.iconst (v := (0 : Int32)) C dX0_takePunch_11 (by decide) ?_
  obtain ⟨M_3, eM_3, h⟩ := ltv_ex h
  refine G.putZ (k := 2) C k_X0 (sc_50 hE) rfl (by decide) tg_372 rfl rfl (by decide) dX0_takePunch_12 eM_3 ?_
  cases h
  exact G.vret C hr dX0_takePunch_15
def f_X0_takePunch_50 (x1 : Int32) (M : Mm) : Option Mm := bb_X0_takePunch_50_0 x1 M
theorem s_X0_takePunch_50 {l : Launch} {E : Ev} {x1 : Int32} {M : Mm} {M' : Mm} (hE : Has shC (eH E)) (h : f_X0_takePunch_50 x1 M = some M') : MetA l yX0_takePunch cX0_takePunch 2 none 1 E [.ref (eA E 50), .int x1] M none M' := by
  refine MetA.of (by decide +kernel) (Nat.le_of_ble_eq_true rfl) ?_
  intro p e s m below meth c C hr hnm
  exact G.sub [0, 1] rfl (gb_X0_takePunch_50_0 hE C hr  h)
def bb_X0_take_50_0 (x1 : Int64) (M : Mm) : Option (Int32 × Mm) := bd (f_J13_bitCount_95d88 (x1 &&& ((M.2 50 1) ^^^ (-1 : Int64)))) fun v_2 => ltv (wJ M 50 1 ((M.2 50 1) ||| x1)) fun M_3 => some (v_2, M_3)
set_option maxHeartbeats 4000000 in
set_option maxRecDepth 100000 in
theorem gb_X0_take_50_0  {x1 : Int64} {M : Mm} {v : Int32} {M' : Mm} (hE : Has shC (eH E)) (C : Cx RX0 cX0_take 4 p (rmD 2) s m args meth c E) (hr : meth.sig.returnType = (some .int)) (h : bb_X0_take_50_0 x1 M = some (v, M')) : G p l e (rmD 2) s m args below meth c E 4 0 0 (QR below args s E 0 0 (some (.int v)) M') 0 [(0, .ref (eA E 50)), (1, .long x1)] [] M := by
  unfold bb_X0_take_50_0 at h
  refine G.lload_n C 1 dX0_take_0 rfl rfl ?_
  refine G.aload_n C 0 dX0_take_1 rfl rfl ?_
  refine G.getJ (k := 1) C k_X0 (sc_50 hE) rfl (by decide) tg_370 dX0_take_2 ?_
  refine G.ldc2 C tg_556 dX0_take_5 ?_
  refine G.lxor C dX0_take_8 ?_
  refine G.land C dX0_take_9 ?_
  obtain ⟨v_2, hv_1, h⟩ := bd_ex h
  refine G.callS (rest := []) C (s_J13_bitCount_95d88  hv_1) ⟨tg_457, tg_102, ok_J13_bitCount_95d88, Nat.le_of_ble_eq_true rfl, Nat.le_of_ble_eq_true rfl⟩ tg_1066 tg_456 rfl (Nat.le_of_ble_eq_true rfl) dX0_take_10 ⟨Nat.le_refl 0, Nat.le_refl 0⟩ ?_
  refine G.istore_n (L' := [(3, .int v_2), (0, .ref (eA E 50)), (1, .long x1)]) C dX0_take_13 rfl rfl (by decide) rfl ?_
  refine G.aload_n C 1 dX0_take_14 rfl rfl ?_
  refine G.dup C dX0_take_15 rfl ?_
  refine G.getJ (k := 1) C k_X0 (sc_50 hE) rfl (by decide) tg_370 dX0_take_16 ?_
  refine G.lload_n C 2 dX0_take_19 rfl rfl ?_
  refine G.lor C dX0_take_20 ?_
  obtain ⟨M_3, eM_3, h⟩ := ltv_ex h
  refine G.putJ (k := 1) C k_X0 (sc_50 hE) rfl (by decide) tg_370 rfl rfl dX0_take_21 eM_3 ?_
  refine G.iload_n C 0 dX0_take_24 rfl rfl ?_
  cases h
  exact G.iret C hr dX0_take_25
def f_X0_take_50 (x1 : Int64) (M : Mm) : Option (Int32 × Mm) := bb_X0_take_50_0 x1 M
theorem s_X0_take_50 {l : Launch} {E : Ev} {x1 : Int64} {M : Mm} {v : Int32} {M' : Mm} (hE : Has shC (eH E)) (h : f_X0_take_50 x1 M = some (v, M')) : MetA l yX0_take cX0_take 4 (some .int) 2 E [.ref (eA E 50), .long x1] M (some (.int v)) M' := by
  refine MetA.of (by decide +kernel) (Nat.le_of_ble_eq_true rfl) ?_
  intro p e s m below meth c C hr hnm
  exact G.sub [0, 1] rfl (gb_X0_take_50_0 hE C hr  h)
def bb_X0_bursts_0 (x0 : Int64) (x2 : Int64) : Option Int32 := bd (f_X4_beside x2) fun v_2 => if (v_2 &&& x0) = (0 : Int64) then (some (0 : Int32)) else (some (1 : Int32))
set_option maxHeartbeats 4000000 in
set_option maxRecDepth 100000 in
theorem gb_X0_bursts_0 {M : Mm}  {x0 : Int64} {x2 : Int64} {v : Int32} (C : Cx RX0 cX0_bursts 4 p (rmD 3) s m args meth c E) (hr : meth.sig.returnType = (some .boolean)) (h : bb_X0_bursts_0 x0 x2 = some v) : G p l e (rmD 3) s m args below meth c E 4 0 0 (QR below args s E 0 0 (some (.int v)) M) 0 [(0, .long x0), (2, .long x2)] [] M := by
  unfold bb_X0_bursts_0 at h
  refine G.lload_n C 1 dX0_bursts_0 rfl rfl ?_
  obtain ⟨v_2, hv_1, h⟩ := bd_ex h
  refine G.callS (rest := []) C (s_X4_beside  hv_1) ⟨tg_463, tg_101, ok_X4_beside, Nat.le_of_ble_eq_true rfl, Nat.le_of_ble_eq_true rfl⟩ tg_560 tg_462 rfl (Nat.le_of_ble_eq_true rfl) dX0_bursts_1 ⟨Nat.le_refl 0, Nat.le_refl 0⟩ ?_
  refine G.lload_n C 0 dX0_bursts_4 rfl rfl ?_
  refine G.land C dX0_bursts_5 ?_
  refine G.lconst (v := (0 : Int64)) C dX0_bursts_6 (by decide) ?_
  refine G.lcmp C dX0_bursts_7 (G.if_eq (tgt := 15) C dX0_bursts_8 (by decide) (fun hc => ?_) (fun hc => ?_))
  · have h := it_t h (lgc_eq.mp hc)
    refine G.iconst (v := (0 : Int32)) C dX0_bursts_15 (by decide) ?_
    cases h
    exact G.zret C hr rfl dX0_bursts_16
  · have h := it_f h ((not_congr lgc_eq).mp hc)
    refine G.iconst (v := (1 : Int32)) C dX0_bursts_11 (by decide) ?_
    refine G.goto (tgt := 16) C dX0_bursts_12 (by decide) ?_
    cases h
    exact G.zret C hr rfl dX0_bursts_16
def f_X0_bursts (x0 : Int64) (x2 : Int64) : Option Int32 := bb_X0_bursts_0 x0 x2
theorem s_X0_bursts {l : Launch} {E : Ev} {x0 : Int64} {x2 : Int64} {M : Mm} {v : Int32} (h : f_X0_bursts x0 x2 = some v) : MetA l yX0_bursts cX0_bursts 4 (some .boolean) 3 E [.long x0, .long x2] M (some (.int v)) M := by
  refine MetA.of (by decide +kernel) (Nat.le_of_ble_eq_true rfl) ?_
  intro p e s m below meth c C hr hnm
  exact G.sub [0, 1] rfl (gb_X0_bursts_0 C hr  h)
def bb_X0_struckBy_0 (x0 : Int64) (x2 : Int64) : Option Int64 := bd (f_X0_bursts x0 x2) fun v_2 => if v_2 = 0 then (some x2) else (bd (f_X4_beside x2) fun v_4 => some (x2 ||| v_4))
set_option maxHeartbeats 4000000 in
set_option maxRecDepth 100000 in
theorem gb_X0_struckBy_0 {M : Mm}  {x0 : Int64} {x2 : Int64} {v : Int64} (C : Cx RX0 cX0_struckBy 4 p (rmD 4) s m args meth c E) (hr : meth.sig.returnType = (some .long)) (h : bb_X0_struckBy_0 x0 x2 = some v) : G p l e (rmD 4) s m args below meth c E 4 0 0 (QR below args s E 0 0 (some (.long v)) M) 0 [(0, .long x0), (2, .long x2)] [] M := by
  unfold bb_X0_struckBy_0 at h
  refine G.lload_n C 0 dX0_struckBy_0 rfl rfl ?_
  refine G.lload_n C 1 dX0_struckBy_1 rfl rfl ?_
  obtain ⟨v_2, hv_1, h⟩ := bd_ex h
  refine G.callS (rest := []) C (s_X0_bursts  hv_1) ⟨tg_559, tg_98, ok_X0_bursts, Nat.le_of_ble_eq_true rfl, Nat.le_of_ble_eq_true rfl⟩ tg_557 tg_558 rfl (Nat.le_of_ble_eq_true rfl) dX0_struckBy_2 ⟨Nat.le_refl 0, Nat.le_refl 0⟩ ?_
  refine G.if_eq (tgt := 17) C dX0_struckBy_5 (by decide) (fun hc => ?_) (fun hc => ?_)
  · have h := it_t h hc
    refine G.lload_n C 1 dX0_struckBy_17 rfl rfl ?_
    cases h
    exact G.lret C hr dX0_struckBy_18
  · have h := it_f h hc
    refine G.lload_n C 1 dX0_struckBy_8 rfl rfl ?_
    refine G.lload_n C 1 dX0_struckBy_9 rfl rfl ?_
    obtain ⟨v_4, hv_3, h⟩ := bd_ex h
    refine G.callS (rest := [.long x2]) C (s_X4_beside  hv_3) ⟨tg_463, tg_101, ok_X4_beside, Nat.le_of_ble_eq_true rfl, Nat.le_of_ble_eq_true rfl⟩ tg_560 tg_462 rfl (Nat.le_of_ble_eq_true rfl) dX0_struckBy_10 ⟨Nat.le_refl 0, Nat.le_refl 0⟩ ?_
    refine G.lor C dX0_struckBy_13 ?_
    refine G.goto (tgt := 18) C dX0_struckBy_14 (by decide) ?_
    cases h
    exact G.lret C hr dX0_struckBy_18
def f_X0_struckBy (x0 : Int64) (x2 : Int64) : Option Int64 := bb_X0_struckBy_0 x0 x2
theorem s_X0_struckBy {l : Launch} {E : Ev} {x0 : Int64} {x2 : Int64} {M : Mm} {v : Int64} (h : f_X0_struckBy x0 x2 = some v) : MetA l yX0_struckBy cX0_struckBy 4 (some .long) 4 E [.long x0, .long x2] M (some (.long v)) M := by
  refine MetA.of (by decide +kernel) (Nat.le_of_ble_eq_true rfl) ?_
  intro p e s m below meth c C hr hnm
  exact G.sub [0, 1] rfl (gb_X0_struckBy_0 C hr  h)
def bb_X0_strike_50_24 (x1 : Int64) (s1 : Int32) (M : Mm) : Option (Int32 × Mm) := gd (isB s1) (ltv (wI M 50 2 s1) fun M_4 => bd (f_X0_struckBy (M_4.2 50 1) x1) fun v_6 => bd2 (f_X0_take_50 v_6 M_4) fun v_9 M_8 => some (v_9, M_8))
set_option maxHeartbeats 4000000 in
set_option maxRecDepth 100000 in
theorem gb_X0_strike_50_24  {x1 : Int64} {s1 : Int32} {M : Mm} {v : Int32} {M' : Mm} (hE : Has shC (eH E)) (C : Cx RX0 cX0_strike 3 p (rmD 5) s m args meth c E) (hr : meth.sig.returnType = (some .int)) (h : bb_X0_strike_50_24 x1 s1 M = some (v, M')) : G p l e (rmD 5) s m args below meth c E 3 0 0 (QR below args s E 0 0 (some (.int v)) M') 24 [(0, .ref (eA E 50)), (1, .long x1)] [.int s1, .ref (eA E 50)] M := by
  unfold bb_X0_strike_50_24 at h
  obtain ⟨hb_3, h⟩ := gd_ex h
  obtain ⟨M_4, eM_4, h⟩ := ltv_ex h
  refine G.putZ (k := 2) C k_X0 (sc_50 hE) rfl (by decide) tg_372 rfl rfl (isB_s hb_3) dX0_strike_24 eM_4 ?_
  refine G.aload_n C 0 dX0_strike_27 rfl rfl ?_
  refine G.aload_n C 0 dX0_strike_28 rfl rfl ?_
  refine G.getJ (k := 1) C k_X0 (sc_50 hE) rfl (by decide) tg_370 dX0_strike_29 ?_
  refine G.lload_n C 1 dX0_strike_32 rfl rfl ?_
  obtain ⟨v_6, hv_5, h⟩ := bd_ex h
  refine G.callS (rest := [.ref (eA E 50)]) C (s_X0_struckBy  hv_5) ⟨tg_1061, tg_98, ok_X0_struckBy, Nat.le_of_ble_eq_true rfl, Nat.le_of_ble_eq_true rfl⟩ tg_1059 tg_1060 rfl (Nat.le_of_ble_eq_true rfl) dX0_strike_33 ⟨Nat.le_refl 0, Nat.le_refl 0⟩ ?_
  obtain ⟨v_9, M_8, hv_7, h⟩ := bd2_ex h
  refine G.callV (rest := []) C (s_X0_take_50 hE  hv_7) ⟨tg_1065, tg_98, ok_X0_take, Nat.le_of_ble_eq_true rfl, Nat.le_of_ble_eq_true rfl⟩ tg_1062 tg_1063 tg_1064 (sc_50 hE) rfl rfl (Nat.le_of_ble_eq_true rfl) dX0_strike_36 ⟨Nat.le_refl 0, Nat.le_refl 0⟩ ?_
  cases h
  exact G.iret C hr dX0_strike_39
def bb_X0_strike_50_19 (x1 : Int64) (M : Mm) : Option (Int32 × Mm) := bb_X0_strike_50_24 x1 (1 : Int32) M
set_option maxHeartbeats 4000000 in
set_option maxRecDepth 100000 in
theorem gb_X0_strike_50_19  {x1 : Int64} {M : Mm} {v : Int32} {M' : Mm} (hE : Has shC (eH E)) (C : Cx RX0 cX0_strike 3 p (rmD 5) s m args meth c E) (hr : meth.sig.returnType = (some .int)) (h : bb_X0_strike_50_19 x1 M = some (v, M')) : G p l e (rmD 5) s m args below meth c E 3 0 0 (QR below args s E 0 0 (some (.int v)) M') 19 [(0, .ref (eA E 50)), (1, .long x1)] [.ref (eA E 50)] M := by
  unfold bb_X0_strike_50_19 at h
  refine G.iconst (v := (1 : Int32)) C dX0_strike_19 (by decide) ?_
  refine G.goto (tgt := 24) C dX0_strike_20 (by decide) ?_
  exact G.sub [0, 1] rfl (gb_X0_strike_50_24 hE C hr  h)
def bb_X0_strike_50_0 (x1 : Int64) (M : Mm) : Option (Int32 × Mm) := if (M.1 50 2) = 0 then (bd (f_X0_bursts (M.2 50 1) x1) fun v_2 => if v_2 = 0 then (bb_X0_strike_50_24 x1 (0 : Int32) M) else (bb_X0_strike_50_19 x1 M)) else (bb_X0_strike_50_19 x1 M)
set_option maxHeartbeats 4000000 in
set_option maxRecDepth 100000 in
theorem gb_X0_strike_50_0  {x1 : Int64} {M : Mm} {v : Int32} {M' : Mm} (hE : Has shC (eH E)) (C : Cx RX0 cX0_strike 3 p (rmD 5) s m args meth c E) (hr : meth.sig.returnType = (some .int)) (h : bb_X0_strike_50_0 x1 M = some (v, M')) : G p l e (rmD 5) s m args below meth c E 3 0 0 (QR below args s E 0 0 (some (.int v)) M') 0 [(0, .ref (eA E 50)), (1, .long x1)] [] M := by
  unfold bb_X0_strike_50_0 at h
  refine G.aload_n C 0 dX0_strike_0 rfl rfl ?_
  refine G.aload_n C 0 dX0_strike_1 rfl rfl ?_
  refine G.getZ (k := 2) C k_X0 (sc_50 hE) rfl (by decide) tg_372 dX0_strike_2 ?_
  refine G.if_ne (tgt := 19) C dX0_strike_5 (by decide) (fun hc => ?_) (fun hc => ?_)
  · have h := it_f h hc
    exact G.sub [0, 1] rfl (gb_X0_strike_50_19 hE C hr  h)
  · have h := it_t h hc
    refine G.aload_n C 0 dX0_strike_8 rfl rfl ?_
    refine G.getJ (k := 1) C k_X0 (sc_50 hE) rfl (by decide) tg_370 dX0_strike_9 ?_
    refine G.lload_n C 1 dX0_strike_12 rfl rfl ?_
    obtain ⟨v_2, hv_1, h⟩ := bd_ex h
    refine G.callS (rest := [.ref (eA E 50)]) C (s_X0_bursts  hv_1) ⟨tg_559, tg_98, ok_X0_bursts, Nat.le_of_ble_eq_true rfl, Nat.le_of_ble_eq_true rfl⟩ tg_557 tg_558 rfl (Nat.le_of_ble_eq_true rfl) dX0_strike_13 ⟨Nat.le_refl 0, Nat.le_refl 0⟩ ?_
    refine G.if_eq (tgt := 23) C dX0_strike_16 (by decide) (fun hc => ?_) (fun hc => ?_)
    · have h := it_t h hc
      refine G.iconst (v := (0 : Int32)) C dX0_strike_23 (by decide) ?_
      exact G.sub [0, 1] rfl (gb_X0_strike_50_24 hE C hr  h)
    · have h := it_f h hc
      exact G.sub [0, 1] rfl (gb_X0_strike_50_19 hE C hr  h)
def f_X0_strike_50 (x1 : Int64) (M : Mm) : Option (Int32 × Mm) := bb_X0_strike_50_0 x1 M
theorem s_X0_strike_50 {l : Launch} {E : Ev} {x1 : Int64} {M : Mm} {v : Int32} {M' : Mm} (hE : Has shC (eH E)) (h : f_X0_strike_50 x1 M = some (v, M')) : MetA l yX0_strike cX0_strike 3 (some .int) 5 E [.ref (eA E 50), .long x1] M (some (.int v)) M' := by
  refine MetA.of (by decide +kernel) (Nat.le_of_ble_eq_true rfl) ?_
  intro p e s m below meth c C hr hnm
  exact G.sub [0, 1] rfl (gb_X0_strike_50_0 hE C hr  h)
def bb_X0_addAct_50_0 (x1 : Int32) (x2 : Int64) (M : Mm) : Option (Int32 × Mm) := if (M.1 50 5) < 0 then (some ((-1 : Int32), M)) else (if (M.1 50 5) < (40 : Int32) then (gd (inb (M.1 50 5) 40) (ltv (wI M 51 (ix (M.1 50 5)) x1) fun M_2 => gd (inb (M_2.1 50 5) 40) (ltv (wJ M_2 52 (ix (M_2.1 50 5)) x2) fun M_4 => ltv (wI M_4 50 5 ((M_4.1 50 5) + (1 : Int32))) fun M_5 => some (M_5.1 50 5, M_5)))) else (some ((-1 : Int32), M)))
set_option maxHeartbeats 4000000 in
set_option maxRecDepth 100000 in
theorem gb_X0_addAct_50_0  {x1 : Int32} {x2 : Int64} {M : Mm} {v : Int32} {M' : Mm} (hE : Has shC (eH E)) (C : Cx RX0 cX0_addAct 4 p (rmD 1) s m args meth c E) (hr : meth.sig.returnType = (some .int)) (h : bb_X0_addAct_50_0 x1 x2 M = some (v, M')) : G p l e (rmD 1) s m args below meth c E 4 0 0 (QR below args s E 0 0 (some (.int v)) M') 0 [(0, .ref (eA E 50)), (1, .int x1), (2, .long x2)] [] M := by
  unfold bb_X0_addAct_50_0 at h
  refine G.aload_n C 0 dX0_addAct_0 rfl rfl ?_
  refine G.getI (k := 5) C k_X0 (sc_50 hE) rfl (by decide) tg_376 dX0_addAct_1 ?_
  refine G.if_lt (tgt := 16) C dX0_addAct_4 (by decide) (fun hc => ?_) (fun hc => ?_)
  · have h := it_t h hc
    refine G.iconst (v := (-1 : Int32)) C dX0_addAct_16 (by decide) ?_
    cases h
    exact G.iret C hr dX0_addAct_17
  · have h := it_f h hc
    refine G.aload_n C 0 dX0_addAct_7 rfl rfl ?_
    refine G.getI (k := 5) C k_X0 (sc_50 hE) rfl (by decide) tg_376 dX0_addAct_8 ?_
    refine G.bipush (v := (40 : Int32)) C dX0_addAct_11 (by decide) ?_
    refine G.icmp_lt (tgt := 18) C dX0_addAct_13 (by decide) (fun hc => ?_) (fun hc => ?_)
    · have h := it_t h hc
      refine G.aload_n C 0 dX0_addAct_18 rfl rfl ?_
      refine G.getR (k := 3) C k_X0 (sc_50 hE) rfl (by decide) tg_374 dX0_addAct_19 ?_
      refine G.aload_n C 0 dX0_addAct_22 rfl rfl ?_
      refine G.getI (k := 5) C k_X0 (sc_50 hE) rfl (by decide) tg_376 dX0_addAct_23 ?_
      refine G.iload_n C 1 dX0_addAct_26 rfl rfl ?_
      obtain ⟨hg_1, h⟩ := gd_ex h
      obtain ⟨M_2, eM_2, h⟩ := ltv_ex h
      refine G.sI (j := (ix (M.1 50 5))) C (sc_51 hE) hg_1 rfl dX0_addAct_27 eM_2 ?_
      refine G.aload_n C 0 dX0_addAct_28 rfl rfl ?_
      refine G.getR (k := 4) C k_X0 (sc_50 hE) rfl (by decide) tg_375 dX0_addAct_29 ?_
      refine G.aload_n C 0 dX0_addAct_32 rfl rfl ?_
      refine G.getI (k := 5) C k_X0 (sc_50 hE) rfl (by decide) tg_376 dX0_addAct_33 ?_
      refine G.lload_n C 2 dX0_addAct_36 rfl rfl ?_
      obtain ⟨hg_3, h⟩ := gd_ex h
      obtain ⟨M_4, eM_4, h⟩ := ltv_ex h
      refine G.sJ (j := (ix (M_2.1 50 5))) C (sc_52 hE) hg_3 rfl dX0_addAct_37 eM_4 ?_
      refine G.aload_n C 0 dX0_addAct_38 rfl rfl ?_
      refine G.dup C dX0_addAct_39 rfl ?_
      refine G.getI (k := 5) C k_X0 (sc_50 hE) rfl (by decide) tg_376 dX0_addAct_40 ?_
      refine G.iconst (v := (1 : Int32)) C dX0_addAct_43 (by decide) ?_
      refine G.iadd C dX0_addAct_44 ?_
      obtain ⟨M_5, eM_5, h⟩ := ltv_ex h
      refine G.putI (k := 5) C k_X0 (sc_50 hE) rfl (by decide) tg_376 rfl rfl dX0_addAct_45 eM_5 ?_
      refine G.aload_n C 0 dX0_addAct_48 rfl rfl ?_
      refine G.getI (k := 5) C k_X0 (sc_50 hE) rfl (by decide) tg_376 dX0_addAct_49 ?_
      cases h
      exact G.iret C hr dX0_addAct_52
    · have h := it_f h hc
      refine G.iconst (v := (-1 : Int32)) C dX0_addAct_16 (by decide) ?_
      cases h
      exact G.iret C hr dX0_addAct_17
def f_X0_addAct_50 (x1 : Int32) (x2 : Int64) (M : Mm) : Option (Int32 × Mm) := bb_X0_addAct_50_0 x1 x2 M
theorem s_X0_addAct_50 {l : Launch} {E : Ev} {x1 : Int32} {x2 : Int64} {M : Mm} {v : Int32} {M' : Mm} (hE : Has shC (eH E)) (h : f_X0_addAct_50 x1 x2 M = some (v, M')) : MetA l yX0_addAct cX0_addAct 4 (some .int) 1 E [.ref (eA E 50), .int x1, .long x2] M (some (.int v)) M' := by
  refine MetA.of (by decide +kernel) (Nat.le_of_ble_eq_true rfl) ?_
  intro p e s m below meth c C hr hnm
  exact G.sub [0, 1, 2] rfl (gb_X0_addAct_50_0 hE C hr  h)
def bb_X0_addPrint_50_0 (x1 : Int64) (M : Mm) : Option (Int32 × Mm) := if (M.1 50 7) < 0 then (some ((-1 : Int32), M)) else (if (M.1 50 7) < (8 : Int32) then (gd (inb (M.1 50 7) 8) (ltv (wJ M 53 (ix (M.1 50 7)) x1) fun M_2 => ltv (wI M_2 50 7 ((M_2.1 50 7) + (1 : Int32))) fun M_3 => some (M_3.1 50 7, M_3))) else (some ((-1 : Int32), M)))
set_option maxHeartbeats 4000000 in
set_option maxRecDepth 100000 in
theorem gb_X0_addPrint_50_0  {x1 : Int64} {M : Mm} {v : Int32} {M' : Mm} (hE : Has shC (eH E)) (C : Cx RX0 cX0_addPrint 3 p (rmD 1) s m args meth c E) (hr : meth.sig.returnType = (some .int)) (h : bb_X0_addPrint_50_0 x1 M = some (v, M')) : G p l e (rmD 1) s m args below meth c E 3 0 0 (QR below args s E 0 0 (some (.int v)) M') 0 [(0, .ref (eA E 50)), (1, .long x1)] [] M := by
  unfold bb_X0_addPrint_50_0 at h
  refine G.aload_n C 0 dX0_addPrint_0 rfl rfl ?_
  refine G.getI (k := 7) C k_X0 (sc_50 hE) rfl (by decide) tg_381 dX0_addPrint_1 ?_
  refine G.if_lt (tgt := 16) C dX0_addPrint_4 (by decide) (fun hc => ?_) (fun hc => ?_)
  · have h := it_t h hc
    refine G.iconst (v := (-1 : Int32)) C dX0_addPrint_16 (by decide) ?_
    cases h
    exact G.iret C hr dX0_addPrint_17
  · have h := it_f h hc
    refine G.aload_n C 0 dX0_addPrint_7 rfl rfl ?_
    refine G.getI (k := 7) C k_X0 (sc_50 hE) rfl (by decide) tg_381 dX0_addPrint_8 ?_
    refine G.bipush (v := (8 : Int32)) C dX0_addPrint_11 (by decide) ?_
    refine G.icmp_lt (tgt := 18) C dX0_addPrint_13 (by decide) (fun hc => ?_) (fun hc => ?_)
    · have h := it_t h hc
      refine G.aload_n C 0 dX0_addPrint_18 rfl rfl ?_
      refine G.getR (k := 6) C k_X0 (sc_50 hE) rfl (by decide) tg_378 dX0_addPrint_19 ?_
      refine G.aload_n C 0 dX0_addPrint_22 rfl rfl ?_
      refine G.getI (k := 7) C k_X0 (sc_50 hE) rfl (by decide) tg_381 dX0_addPrint_23 ?_
      refine G.lload_n C 1 dX0_addPrint_26 rfl rfl ?_
      obtain ⟨hg_1, h⟩ := gd_ex h
      obtain ⟨M_2, eM_2, h⟩ := ltv_ex h
      refine G.sJ (j := (ix (M.1 50 7))) C (sc_53 hE) hg_1 rfl dX0_addPrint_27 eM_2 ?_
      refine G.aload_n C 0 dX0_addPrint_28 rfl rfl ?_
      refine G.dup C dX0_addPrint_29 rfl ?_
      refine G.getI (k := 7) C k_X0 (sc_50 hE) rfl (by decide) tg_381 dX0_addPrint_30 ?_
      refine G.iconst (v := (1 : Int32)) C dX0_addPrint_33 (by decide) ?_
      refine G.iadd C dX0_addPrint_34 ?_
      obtain ⟨M_3, eM_3, h⟩ := ltv_ex h
      refine G.putI (k := 7) C k_X0 (sc_50 hE) rfl (by decide) tg_381 rfl rfl dX0_addPrint_35 eM_3 ?_
      refine G.aload_n C 0 dX0_addPrint_38 rfl rfl ?_
      refine G.getI (k := 7) C k_X0 (sc_50 hE) rfl (by decide) tg_381 dX0_addPrint_39 ?_
      cases h
      exact G.iret C hr dX0_addPrint_42
    · have h := it_f h hc
      refine G.iconst (v := (-1 : Int32)) C dX0_addPrint_16 (by decide) ?_
      cases h
      exact G.iret C hr dX0_addPrint_17
def f_X0_addPrint_50 (x1 : Int64) (M : Mm) : Option (Int32 × Mm) := bb_X0_addPrint_50_0 x1 M
theorem s_X0_addPrint_50 {l : Launch} {E : Ev} {x1 : Int64} {M : Mm} {v : Int32} {M' : Mm} (hE : Has shC (eH E)) (h : f_X0_addPrint_50 x1 M = some (v, M')) : MetA l yX0_addPrint cX0_addPrint 3 (some .int) 1 E [.ref (eA E 50), .long x1] M (some (.int v)) M' := by
  refine MetA.of (by decide +kernel) (Nat.le_of_ble_eq_true rfl) ?_
  intro p e s m below meth c C hr hnm
  exact G.sub [0, 1] rfl (gb_X0_addPrint_50_0 hE C hr  h)
def bb_X0_goneBehindAct_50_11_48 (x4 : Int64) (x6 : Int32) (s0 : Int32) (M : Mm) : Option Int64 := if s0 = 0 then (some x4) else (gd (inb x6 16) (bd (f_X0_struckBy x4 (M.2 17 (ix x6))) fun v_8 => some (x4 ||| v_8)))
set_option maxHeartbeats 4000000 in
set_option maxRecDepth 100000 in
theorem gb_X0_goneBehindAct_50_11_48  {x4 : Int64} {x6 : Int32} {s0 : Int32} {M : Mm} {v : Int64} (hE : Has shC (eH E)) (C : Cx RX0 cX0_goneBehindAct 8 p (rmD 5) s m args meth c E) (hr : meth.sig.returnType = (some .long)) (h : bb_X0_goneBehindAct_50_11_48 x4 x6 s0 M = some v) : G p l e (rmD 5) s m args below meth c E 8 0 0 (QR below args s E 0 0 (some (.long v)) M) 48 [(1, .ref (eA E 11)), (4, .long x4), (6, .int x6)] [.int s0] M := by
  unfold bb_X0_goneBehindAct_50_11_48 at h
  refine G.istore (L' := [(7, .int s0), (1, .ref (eA E 11)), (4, .long x4), (6, .int x6)]) C dX0_goneBehindAct_48 rfl (by decide) rfl ?_
  refine G.iload C 0 dX0_goneBehindAct_50 rfl ?_
  refine G.if_eq (tgt := 73) C dX0_goneBehindAct_52 (by decide) (fun hc => ?_) (fun hc => ?_)
  · have h := it_t h hc
    refine G.lload C 2 dX0_goneBehindAct_73 rfl ?_
    cases h
    exact G.lret C hr dX0_goneBehindAct_75
  · have h := it_f h hc
    refine G.lload C 2 dX0_goneBehindAct_55 rfl ?_
    refine G.lload C 2 dX0_goneBehindAct_57 rfl ?_
    refine G.aload_n C 1 dX0_goneBehindAct_59 rfl rfl ?_
    refine G.getRN (k := 5) C k_X7 (sc_11 hE) rfl (by decide) tw_152 dX0_goneBehindAct_60 ?_
    refine G.iload C 3 dX0_goneBehindAct_63 rfl ?_
    obtain ⟨hg_6, h⟩ := gd_ex h
    refine G.aJ (j := ix x6) C (sc_17 hE) hg_6 rfl dX0_goneBehindAct_65 ?_
    obtain ⟨v_8, hv_7, h⟩ := bd_ex h
    refine G.callS (rest := [.long x4]) C (s_X0_struckBy  hv_7) ⟨tg_1061, tg_98, ok_X0_struckBy, Nat.le_of_ble_eq_true rfl, Nat.le_of_ble_eq_true rfl⟩ tg_1059 tg_1060 rfl (Nat.le_of_ble_eq_true rfl) dX0_goneBehindAct_66 ⟨Nat.le_refl 0, Nat.le_refl 0⟩ ?_
    refine G.lor C dX0_goneBehindAct_69 ?_
    refine G.goto (tgt := 75) C dX0_goneBehindAct_70 (by decide) ?_
    cases h
    exact G.lret C hr dX0_goneBehindAct_75
def bb_X0_goneBehindAct_50_11_0 (x2 : Int32) (x3 : Int32) (x4 : Int64) (M : Mm) : Option Int64 := gd (inb x3 40) (ltv (M.1 51 (ix x3)) fun x6_2 => if x6_2 < 0 then (gd (inb x3 40) (some (x4 ||| (M.2 52 (ix x3))))) else (if x6_2 < (M.1 11 9) then (gd (inb x6_2 16) (if (M.1 18 (ix x6_2)) = x2 then (bb_X0_goneBehindAct_50_11_48 x4 x6_2 (1 : Int32) M) else (bb_X0_goneBehindAct_50_11_48 x4 x6_2 (0 : Int32) M))) else (gd (inb x3 40) (some (x4 ||| (M.2 52 (ix x3)))))))
set_option maxHeartbeats 4000000 in
set_option maxRecDepth 100000 in
theorem gb_X0_goneBehindAct_50_11_0  {x2 : Int32} {x3 : Int32} {x4 : Int64} {M : Mm} {v : Int64} (hE : Has shC (eH E)) (C : Cx RX0 cX0_goneBehindAct 8 p (rmD 5) s m args meth c E) (hr : meth.sig.returnType = (some .long)) (h : bb_X0_goneBehindAct_50_11_0 x2 x3 x4 M = some v) : G p l e (rmD 5) s m args below meth c E 8 0 0 (QR below args s E 0 0 (some (.long v)) M) 0 [(0, .ref (eA E 50)), (1, .ref (eA E 11)), (2, .int x2), (3, .int x3), (4, .long x4)] [] M := by
  unfold bb_X0_goneBehindAct_50_11_0 at h
  refine G.aload_n C 0 dX0_goneBehindAct_0 rfl rfl ?_
  refine G.getR (k := 3) C k_X0 (sc_50 hE) rfl (by decide) tg_374 dX0_goneBehindAct_1 ?_
  refine G.iload_n C 3 dX0_goneBehindAct_4 rfl rfl ?_
  obtain ⟨hg_1, h⟩ := gd_ex h
  refine G.aI (j := ix x3) C (sc_51 hE) hg_1 rfl dX0_goneBehindAct_5 ?_
  obtain ⟨x6_2, ex6_2, h⟩ := ltv_ex h
  refine G.istore (L' := [(6, .int x6_2), (0, .ref (eA E 50)), (1, .ref (eA E 11)), (2, .int x2), (3, .int x3), (4, .long x4)]) C dX0_goneBehindAct_6 ex6_2 (by decide) rfl ?_
  refine G.iload C 0 dX0_goneBehindAct_8 rfl ?_
  refine G.if_lt (tgt := 22) C dX0_goneBehindAct_10 (by decide) (fun hc => ?_) (fun hc => ?_)
  · have h := it_t h hc
    refine G.lload C 5 dX0_goneBehindAct_22 rfl ?_
    refine G.aload_n C 1 dX0_goneBehindAct_24 rfl rfl ?_
    refine G.getR (k := 4) C k_X0 (sc_50 hE) rfl (by decide) tg_375 dX0_goneBehindAct_25 ?_
    refine G.iload_n C 4 dX0_goneBehindAct_28 rfl rfl ?_
    obtain ⟨hg_3, h⟩ := gd_ex h
    refine G.aJ (j := ix x3) C (sc_52 hE) hg_3 rfl dX0_goneBehindAct_29 ?_
    refine G.lor C dX0_goneBehindAct_30 ?_
    cases h
    exact G.lret C hr dX0_goneBehindAct_31
  · have h := it_f h hc
    refine G.iload C 0 dX0_goneBehindAct_13 rfl ?_
    refine G.aload_n C 2 dX0_goneBehindAct_15 rfl rfl ?_
    refine G.getIN (k := 9) C k_X7 (sc_11 hE) rfl (by decide) tw_170 dX0_goneBehindAct_16 ?_
    refine G.icmp_lt (tgt := 32) C dX0_goneBehindAct_19 (by decide) (fun hc => ?_) (fun hc => ?_)
    · have h := it_t h hc
      refine G.aload_n C 2 dX0_goneBehindAct_32 rfl rfl ?_
      refine G.getRN (k := 6) C k_X7 (sc_11 hE) rfl (by decide) tw_155 dX0_goneBehindAct_33 ?_
      refine G.iload C 0 dX0_goneBehindAct_36 rfl ?_
      obtain ⟨hg_4, h⟩ := gd_ex h
      refine G.aI (j := ix x6_2) C (sc_18 hE) hg_4 rfl dX0_goneBehindAct_38 ?_
      refine G.iload_n C 3 dX0_goneBehindAct_39 rfl rfl ?_
      refine G.icmp_ne (tgt := 47) C dX0_goneBehindAct_40 (by decide) (fun hc => ?_) (fun hc => ?_)
      · have h := it_f h hc
        refine G.iconst (v := (0 : Int32)) C dX0_goneBehindAct_47 (by decide) ?_
        exact G.sub [2, 5, 0] rfl (gb_X0_goneBehindAct_50_11_48 hE C hr  h)
      · have h := it_t h hc
        refine G.iconst (v := (1 : Int32)) C dX0_goneBehindAct_43 (by decide) ?_
        refine G.goto (tgt := 48) C dX0_goneBehindAct_44 (by decide) ?_
        exact G.sub [2, 5, 0] rfl (gb_X0_goneBehindAct_50_11_48 hE C hr  h)
    · have h := it_f h hc
      refine G.lload C 5 dX0_goneBehindAct_22 rfl ?_
      refine G.aload_n C 1 dX0_goneBehindAct_24 rfl rfl ?_
      refine G.getR (k := 4) C k_X0 (sc_50 hE) rfl (by decide) tg_375 dX0_goneBehindAct_25 ?_
      refine G.iload_n C 4 dX0_goneBehindAct_28 rfl rfl ?_
      obtain ⟨hg_5, h⟩ := gd_ex h
      refine G.aJ (j := ix x3) C (sc_52 hE) hg_5 rfl dX0_goneBehindAct_29 ?_
      refine G.lor C dX0_goneBehindAct_30 ?_
      cases h
      exact G.lret C hr dX0_goneBehindAct_31
def f_X0_goneBehindAct_50_11 (x2 : Int32) (x3 : Int32) (x4 : Int64) (M : Mm) : Option Int64 := bb_X0_goneBehindAct_50_11_0 x2 x3 x4 M
theorem s_X0_goneBehindAct_50_11 {l : Launch} {E : Ev} {x2 : Int32} {x3 : Int32} {x4 : Int64} {M : Mm} {v : Int64} (hE : Has shC (eH E)) (h : f_X0_goneBehindAct_50_11 x2 x3 x4 M = some v) : MetA l yX0_goneBehindAct cX0_goneBehindAct 8 (some .long) 5 E [.ref (eA E 50), .ref (eA E 11), .int x2, .int x3, .long x4] M (some (.long v)) M := by
  refine MetA.of (by decide +kernel) (Nat.le_of_ble_eq_true rfl) ?_
  intro p e s m below meth c C hr hnm
  exact G.sub [0, 1, 2, 3, 4] rfl (gb_X0_goneBehindAct_50_11_0 hE C hr  h)
def bb_X0_firstSpoiling_50_11_5 (k_5 : Int32 → Int64 → Int32 → Mm → Option Int32) (x2 : Int32) (x3 : Int64) (x5 : Int32) (M : Mm) : Option Int32 := if (M.1 50 5) ≤ x5 then (some (-1 : Int32)) else (if (40 : Int32) ≤ x5 then (some (-1 : Int32)) else (bd (f_X0_goneBehindAct_50_11 x2 x5 x3 M) fun v_2 => bd (f_X7_inkOf_11 x2 M) fun v_4 => if (v_2 &&& v_4) = (0 : Int64) then (ltv (x5 + (1 : Int32)) fun x5_5 => k_5 x2 v_2 x5_5 M) else (some x5)))
set_option maxHeartbeats 4000000 in
set_option maxRecDepth 100000 in
theorem gb_X0_firstSpoiling_50_11_5  {k_5 : Int32 → Int64 → Int32 → Mm → Option Int32} {x2 : Int32} {x3 : Int64} {x5 : Int32} {M : Mm} {v : Int32} (hE : Has shC (eH E)) (C : Cx RX0 cX0_firstSpoiling 6 p (rmD 6) s m args meth c E) (hr : meth.sig.returnType = (some .int)) (hk_5 : ∀ (x2 : Int32) (x3 : Int64) (x5 : Int32) (M : Mm), k_5 x2 x3 x5 M = some v → G p l e (rmD 6) s m args below meth c E 6 0 0 (QR below args s E 0 0 (some (.int v)) M) 5 [(0, .ref (eA E 50)), (1, .ref (eA E 11)), (2, .int x2), (3, .long x3), (5, .int x5)] [] M) (h : bb_X0_firstSpoiling_50_11_5 k_5 x2 x3 x5 M = some v) : G p l e (rmD 6) s m args below meth c E 6 0 0 (QR below args s E 0 0 (some (.int v)) M) 5 [(0, .ref (eA E 50)), (1, .ref (eA E 11)), (2, .int x2), (3, .long x3), (5, .int x5)] [] M := by
  unfold bb_X0_firstSpoiling_50_11_5 at h
  refine G.iload C 4 dX0_firstSpoiling_5 rfl ?_
  refine G.aload_n C 0 dX0_firstSpoiling_7 rfl rfl ?_
  refine G.getI (k := 5) C k_X0 (sc_50 hE) rfl (by decide) tg_376 dX0_firstSpoiling_8 ?_
  refine G.icmp_ge (tgt := 52) C dX0_firstSpoiling_11 (by decide) (fun hc => ?_) (fun hc => ?_)
  · have h := it_t h hc
    refine G.iconst (v := (-1 : Int32)) C dX0_firstSpoiling_52 (by decide) ?_
    cases h
    exact G.iret C hr dX0_firstSpoiling_53
  · have h := it_f h hc
    refine G.iload C 4 dX0_firstSpoiling_14 rfl ?_
    refine G.bipush (v := (40 : Int32)) C dX0_firstSpoiling_16 (by decide) ?_
    refine G.icmp_ge (tgt := 52) C dX0_firstSpoiling_18 (by decide) (fun hc => ?_) (fun hc => ?_)
    · have h := it_t h hc
      refine G.iconst (v := (-1 : Int32)) C dX0_firstSpoiling_52 (by decide) ?_
      cases h
      exact G.iret C hr dX0_firstSpoiling_53
    · have h := it_f h hc
      refine G.aload_n C 0 dX0_firstSpoiling_21 rfl rfl ?_
      refine G.aload_n C 1 dX0_firstSpoiling_22 rfl rfl ?_
      refine G.iload_n C 2 dX0_firstSpoiling_23 rfl rfl ?_
      refine G.iload C 4 dX0_firstSpoiling_24 rfl ?_
      refine G.lload_n C 3 dX0_firstSpoiling_26 rfl rfl ?_
      obtain ⟨v_2, hv_1, h⟩ := bd_ex h
      refine G.callV (rest := []) C (s_X0_goneBehindAct_50_11 hE  hv_1) ⟨tg_1123, tg_98, ok_X0_goneBehindAct, Nat.le_of_ble_eq_true rfl, Nat.le_of_ble_eq_true rfl⟩ tg_1120 tg_1122 tg_27 (sc_50 hE) rfl rfl (Nat.le_of_ble_eq_true rfl) dX0_firstSpoiling_27 ⟨Nat.le_refl 0, Nat.le_refl 0⟩ ?_
      refine G.lstore_n (L' := [(3, .long v_2), (0, .ref (eA E 50)), (1, .ref (eA E 11)), (2, .int x2), (5, .int x5)]) C dX0_firstSpoiling_30 rfl rfl (by decide) rfl ?_
      refine G.lload_n C 0 dX0_firstSpoiling_31 rfl rfl ?_
      refine G.aload_n C 2 dX0_firstSpoiling_32 rfl rfl ?_
      refine G.iload_n C 3 dX0_firstSpoiling_33 rfl rfl ?_
      obtain ⟨v_4, hv_3, h⟩ := bd_ex h
      refine G.callV (rest := [.long v_2]) C (s_X7_inkOf_11 hE  hv_3) ⟨tg_454, tg_92, ok_X7_inkOf, Nat.le_of_ble_eq_true rfl, Nat.le_of_ble_eq_true rfl⟩ tg_551 tg_452 tg_453 (sc_11 hE) rfl rfl (Nat.le_of_ble_eq_true rfl) dX0_firstSpoiling_34 ⟨Nat.le_refl 0, Nat.le_refl 0⟩ ?_
      refine G.land C dX0_firstSpoiling_37 ?_
      refine G.lconst (v := (0 : Int64)) C dX0_firstSpoiling_38 (by decide) ?_
      refine G.lcmp C dX0_firstSpoiling_39 (G.if_eq (tgt := 46) C dX0_firstSpoiling_40 (by decide) (fun hc => ?_) (fun hc => ?_))
      · have h := it_t h (lgc_eq.mp hc)
        obtain ⟨x5_5, ex5_5, h⟩ := ltv_ex h
        refine G.iinc (L' := [(5, .int x5_5), (3, .long v_2), (0, .ref (eA E 50)), (1, .ref (eA E 11)), (2, .int x2)]) C 4 dX0_firstSpoiling_46 rfl (ex5_5.trans rfl) (by decide) rfl ?_
        refine G.goto (tgt := 5) C dX0_firstSpoiling_49 (by decide) ?_
        exact G.sub [2, 3, 4, 1, 0] rfl (hk_5 _ _ _ _  h)
      · have h := it_f h ((not_congr lgc_eq).mp hc)
        refine G.iload C 4 dX0_firstSpoiling_43 rfl ?_
        cases h
        exact G.iret C hr dX0_firstSpoiling_45
def b_X0_firstSpoiling_50_11_5 : Nat → Int32 → Int64 → Int32 → Mm → Option Int32
  | 0, _, _, _, _ => none
  | n + 1, x2, x3, x5, M => bb_X0_firstSpoiling_50_11_5 (b_X0_firstSpoiling_50_11_5 n) x2 x3 x5 M
set_option maxHeartbeats 4000000 in
theorem g_X0_firstSpoiling_50_11_5  {n : Nat} {x2 : Int32} {x3 : Int64} {x5 : Int32} {M : Mm} {v : Int32} (hE : Has shC (eH E)) (C : Cx RX0 cX0_firstSpoiling 6 p (rmD 6) s m args meth c E) (hr : meth.sig.returnType = (some .int)) (h : b_X0_firstSpoiling_50_11_5 n x2 x3 x5 M = some v) : G p l e (rmD 6) s m args below meth c E 6 0 0 (QR below args s E 0 0 (some (.int v)) M) 5 [(0, .ref (eA E 50)), (1, .ref (eA E 11)), (2, .int x2), (3, .long x3), (5, .int x5)] [] M := by
  induction n generalizing x2 x3 x5 M with
  | zero => cases h
  | succ n ih => exact gb_X0_firstSpoiling_50_11_5 hE C hr (fun _ _ _ _ => ih)  h
def bb_X0_firstSpoiling_50_11_0 (x2 : Int32) (M : Mm) : Option Int32 := b_X0_firstSpoiling_50_11_5 FU x2 (0 : Int64) (0 : Int32) M
set_option maxHeartbeats 4000000 in
set_option maxRecDepth 100000 in
theorem gb_X0_firstSpoiling_50_11_0  {x2 : Int32} {M : Mm} {v : Int32} (hE : Has shC (eH E)) (C : Cx RX0 cX0_firstSpoiling 6 p (rmD 6) s m args meth c E) (hr : meth.sig.returnType = (some .int)) (h : bb_X0_firstSpoiling_50_11_0 x2 M = some v) : G p l e (rmD 6) s m args below meth c E 6 0 0 (QR below args s E 0 0 (some (.int v)) M) 0 [(0, .ref (eA E 50)), (1, .ref (eA E 11)), (2, .int x2)] [] M := by
  unfold bb_X0_firstSpoiling_50_11_0 at h
  refine G.lconst (v := (0 : Int64)) C dX0_firstSpoiling_0 (by decide) ?_
  refine G.lstore_n (L' := [(3, .long (0 : Int64)), (0, .ref (eA E 50)), (1, .ref (eA E 11)), (2, .int x2)]) C dX0_firstSpoiling_1 rfl rfl (by decide) rfl ?_
  refine G.iconst (v := (0 : Int32)) C dX0_firstSpoiling_2 (by decide) ?_
  refine G.istore (L' := [(5, .int (0 : Int32)), (3, .long (0 : Int64)), (0, .ref (eA E 50)), (1, .ref (eA E 11)), (2, .int x2)]) C dX0_firstSpoiling_3 rfl (by decide) rfl ?_
  exact G.sub [2, 3, 4, 1, 0] rfl (g_X0_firstSpoiling_50_11_5 hE C hr  h)
def f_X0_firstSpoiling_50_11 (x2 : Int32) (M : Mm) : Option Int32 := bb_X0_firstSpoiling_50_11_0 x2 M
theorem s_X0_firstSpoiling_50_11 {l : Launch} {E : Ev} {x2 : Int32} {M : Mm} {v : Int32} (hE : Has shC (eH E)) (h : f_X0_firstSpoiling_50_11 x2 M = some v) : MetA l yX0_firstSpoiling cX0_firstSpoiling 6 (some .int) 6 E [.ref (eA E 50), .ref (eA E 11), .int x2] M (some (.int v)) M := by
  refine MetA.of (by decide +kernel) (Nat.le_of_ble_eq_true rfl) ?_
  intro p e s m below meth c C hr hnm
  exact G.sub [0, 1, 2] rfl (gb_X0_firstSpoiling_50_11_0 hE C hr  h)
def bb_X0_goneBehind_50_11_6 (k_6 : Int32 → Int32 → Int64 → Int32 → Mm → Option Int64) (x2 : Int32) (x3 : Int32) (x4 : Int64) (x6 : Int32) (M : Mm) : Option Int64 := if x3 ≤ x6 then (some x4) else (if (40 : Int32) ≤ x6 then (some x4) else (bd (f_X0_goneBehindAct_50_11 x2 x6 x4 M) fun v_2 => ltv (x6 + (1 : Int32)) fun x6_3 => k_6 x2 x3 v_2 x6_3 M))
set_option maxHeartbeats 4000000 in
set_option maxRecDepth 100000 in
theorem gb_X0_goneBehind_50_11_6  {k_6 : Int32 → Int32 → Int64 → Int32 → Mm → Option Int64} {x2 : Int32} {x3 : Int32} {x4 : Int64} {x6 : Int32} {M : Mm} {v : Int64} (hE : Has shC (eH E)) (C : Cx RX0 cX0_goneBehind 7 p (rmD 6) s m args meth c E) (hr : meth.sig.returnType = (some .long)) (hk_6 : ∀ (x2 : Int32) (x3 : Int32) (x4 : Int64) (x6 : Int32) (M : Mm), k_6 x2 x3 x4 x6 M = some v → G p l e (rmD 6) s m args below meth c E 7 0 0 (QR below args s E 0 0 (some (.long v)) M) 6 [(0, .ref (eA E 50)), (1, .ref (eA E 11)), (2, .int x2), (3, .int x3), (4, .long x4), (6, .int x6)] [] M) (h : bb_X0_goneBehind_50_11_6 k_6 x2 x3 x4 x6 M = some v) : G p l e (rmD 6) s m args below meth c E 7 0 0 (QR below args s E 0 0 (some (.long v)) M) 6 [(0, .ref (eA E 50)), (1, .ref (eA E 11)), (2, .int x2), (3, .int x3), (4, .long x4), (6, .int x6)] [] M := by
  unfold bb_X0_goneBehind_50_11_6 at h
  refine G.iload C 5 dX0_goneBehind_6 rfl ?_
  refine G.iload_n C 3 dX0_goneBehind_8 rfl rfl ?_
  refine G.icmp_ge (tgt := 37) C dX0_goneBehind_9 (by decide) (fun hc => ?_) (fun hc => ?_)
  · have h := it_t h hc
    refine G.lload C 4 dX0_goneBehind_37 rfl ?_
    cases h
    exact G.lret C hr dX0_goneBehind_39
  · have h := it_f h hc
    refine G.iload C 5 dX0_goneBehind_12 rfl ?_
    refine G.bipush (v := (40 : Int32)) C dX0_goneBehind_14 (by decide) ?_
    refine G.icmp_ge (tgt := 37) C dX0_goneBehind_16 (by decide) (fun hc => ?_) (fun hc => ?_)
    · have h := it_t h hc
      refine G.lload C 4 dX0_goneBehind_37 rfl ?_
      cases h
      exact G.lret C hr dX0_goneBehind_39
    · have h := it_f h hc
      refine G.aload_n C 0 dX0_goneBehind_19 rfl rfl ?_
      refine G.aload_n C 1 dX0_goneBehind_20 rfl rfl ?_
      refine G.iload_n C 2 dX0_goneBehind_21 rfl rfl ?_
      refine G.iload C 5 dX0_goneBehind_22 rfl ?_
      refine G.lload C 4 dX0_goneBehind_24 rfl ?_
      obtain ⟨v_2, hv_1, h⟩ := bd_ex h
      refine G.callV (rest := []) C (s_X0_goneBehindAct_50_11 hE  hv_1) ⟨tg_1123, tg_98, ok_X0_goneBehindAct, Nat.le_of_ble_eq_true rfl, Nat.le_of_ble_eq_true rfl⟩ tg_1120 tg_1122 tg_27 (sc_50 hE) rfl rfl (Nat.le_of_ble_eq_true rfl) dX0_goneBehind_26 ⟨Nat.le_refl 0, Nat.le_refl 0⟩ ?_
      refine G.lstore (L' := [(4, .long v_2), (0, .ref (eA E 50)), (1, .ref (eA E 11)), (2, .int x2), (3, .int x3), (6, .int x6)]) C dX0_goneBehind_29 rfl (by decide) rfl ?_
      obtain ⟨x6_3, ex6_3, h⟩ := ltv_ex h
      refine G.iinc (L' := [(6, .int x6_3), (4, .long v_2), (0, .ref (eA E 50)), (1, .ref (eA E 11)), (2, .int x2), (3, .int x3)]) C 5 dX0_goneBehind_31 rfl (ex6_3.trans rfl) (by decide) rfl ?_
      refine G.goto (tgt := 6) C dX0_goneBehind_34 (by decide) ?_
      exact G.sub [2, 3, 4, 5, 1, 0] rfl (hk_6 _ _ _ _ _  h)
def b_X0_goneBehind_50_11_6 : Nat → Int32 → Int32 → Int64 → Int32 → Mm → Option Int64
  | 0, _, _, _, _, _ => none
  | n + 1, x2, x3, x4, x6, M => bb_X0_goneBehind_50_11_6 (b_X0_goneBehind_50_11_6 n) x2 x3 x4 x6 M
set_option maxHeartbeats 4000000 in
theorem g_X0_goneBehind_50_11_6  {n : Nat} {x2 : Int32} {x3 : Int32} {x4 : Int64} {x6 : Int32} {M : Mm} {v : Int64} (hE : Has shC (eH E)) (C : Cx RX0 cX0_goneBehind 7 p (rmD 6) s m args meth c E) (hr : meth.sig.returnType = (some .long)) (h : b_X0_goneBehind_50_11_6 n x2 x3 x4 x6 M = some v) : G p l e (rmD 6) s m args below meth c E 7 0 0 (QR below args s E 0 0 (some (.long v)) M) 6 [(0, .ref (eA E 50)), (1, .ref (eA E 11)), (2, .int x2), (3, .int x3), (4, .long x4), (6, .int x6)] [] M := by
  induction n generalizing x2 x3 x4 x6 M with
  | zero => cases h
  | succ n ih => exact gb_X0_goneBehind_50_11_6 hE C hr (fun _ _ _ _ _ => ih)  h
def bb_X0_goneBehind_50_11_0 (x2 : Int32) (x3 : Int32) (M : Mm) : Option Int64 := b_X0_goneBehind_50_11_6 FU x2 x3 (0 : Int64) (0 : Int32) M
set_option maxHeartbeats 4000000 in
set_option maxRecDepth 100000 in
theorem gb_X0_goneBehind_50_11_0  {x2 : Int32} {x3 : Int32} {M : Mm} {v : Int64} (hE : Has shC (eH E)) (C : Cx RX0 cX0_goneBehind 7 p (rmD 6) s m args meth c E) (hr : meth.sig.returnType = (some .long)) (h : bb_X0_goneBehind_50_11_0 x2 x3 M = some v) : G p l e (rmD 6) s m args below meth c E 7 0 0 (QR below args s E 0 0 (some (.long v)) M) 0 [(0, .ref (eA E 50)), (1, .ref (eA E 11)), (2, .int x2), (3, .int x3)] [] M := by
  unfold bb_X0_goneBehind_50_11_0 at h
  refine G.lconst (v := (0 : Int64)) C dX0_goneBehind_0 (by decide) ?_
  refine G.lstore (L' := [(4, .long (0 : Int64)), (0, .ref (eA E 50)), (1, .ref (eA E 11)), (2, .int x2), (3, .int x3)]) C dX0_goneBehind_1 rfl (by decide) rfl ?_
  refine G.iconst (v := (0 : Int32)) C dX0_goneBehind_3 (by decide) ?_
  refine G.istore (L' := [(6, .int (0 : Int32)), (4, .long (0 : Int64)), (0, .ref (eA E 50)), (1, .ref (eA E 11)), (2, .int x2), (3, .int x3)]) C dX0_goneBehind_4 rfl (by decide) rfl ?_
  exact G.sub [2, 3, 4, 5, 1, 0] rfl (g_X0_goneBehind_50_11_6 hE C hr  h)
def f_X0_goneBehind_50_11 (x2 : Int32) (x3 : Int32) (M : Mm) : Option Int64 := bb_X0_goneBehind_50_11_0 x2 x3 M
theorem s_X0_goneBehind_50_11 {l : Launch} {E : Ev} {x2 : Int32} {x3 : Int32} {M : Mm} {v : Int64} (hE : Has shC (eH E)) (h : f_X0_goneBehind_50_11 x2 x3 M = some v) : MetA l yX0_goneBehind cX0_goneBehind 7 (some .long) 6 E [.ref (eA E 50), .ref (eA E 11), .int x2, .int x3] M (some (.long v)) M := by
  refine MetA.of (by decide +kernel) (Nat.le_of_ble_eq_true rfl) ?_
  intro p e s m below meth c C hr hnm
  exact G.sub [0, 1, 2, 3] rfl (gb_X0_goneBehind_50_11_0 hE C hr  h)
def bb_X0_isLeft_50_11_0 (x2 : Int32) (M : Mm) : Option Int32 := gd (inb x2 16) (if (M.1 18 (ix x2)) = (M.1 50 0) then (gd (inb x2 16) (if ((M.2 17 (ix x2)) &&& ((M.2 50 1) ^^^ (-1 : Int64))) = (0 : Int64) then (some (0 : Int32)) else (some (1 : Int32)))) else (some (0 : Int32)))
set_option maxHeartbeats 4000000 in
set_option maxRecDepth 100000 in
theorem gb_X0_isLeft_50_11_0  {x2 : Int32} {M : Mm} {v : Int32} (hE : Has shC (eH E)) (C : Cx RX0 cX0_isLeft 3 p (rmD 1) s m args meth c E) (hr : meth.sig.returnType = (some .boolean)) (h : bb_X0_isLeft_50_11_0 x2 M = some v) : G p l e (rmD 1) s m args below meth c E 3 0 0 (QR below args s E 0 0 (some (.int v)) M) 0 [(0, .ref (eA E 50)), (1, .ref (eA E 11)), (2, .int x2)] [] M := by
  unfold bb_X0_isLeft_50_11_0 at h
  refine G.aload_n C 1 dX0_isLeft_0 rfl rfl ?_
  refine G.getRN (k := 6) C k_X7 (sc_11 hE) rfl (by decide) tw_155 dX0_isLeft_1 ?_
  refine G.iload_n C 2 dX0_isLeft_4 rfl rfl ?_
  obtain ⟨hg_1, h⟩ := gd_ex h
  refine G.aI (j := ix x2) C (sc_18 hE) hg_1 rfl dX0_isLeft_5 ?_
  refine G.aload_n C 0 dX0_isLeft_6 rfl rfl ?_
  refine G.getI (k := 0) C k_X0 (sc_50 hE) rfl (by decide) tg_368 dX0_isLeft_7 ?_
  refine G.icmp_ne (tgt := 37) C dX0_isLeft_10 (by decide) (fun hc => ?_) (fun hc => ?_)
  · have h := it_f h hc
    refine G.iconst (v := (0 : Int32)) C dX0_isLeft_37 (by decide) ?_
    cases h
    exact G.zret C hr rfl dX0_isLeft_38
  · have h := it_t h hc
    refine G.aload_n C 1 dX0_isLeft_13 rfl rfl ?_
    refine G.getRN (k := 5) C k_X7 (sc_11 hE) rfl (by decide) tw_152 dX0_isLeft_14 ?_
    refine G.iload_n C 2 dX0_isLeft_17 rfl rfl ?_
    obtain ⟨hg_2, h⟩ := gd_ex h
    refine G.aJ (j := ix x2) C (sc_17 hE) hg_2 rfl dX0_isLeft_18 ?_
    refine G.aload_n C 0 dX0_isLeft_19 rfl rfl ?_
    refine G.getJ (k := 1) C k_X0 (sc_50 hE) rfl (by decide) tg_370 dX0_isLeft_20 ?_
    refine G.ldc2 C tg_556 dX0_isLeft_23 ?_
    refine G.lxor C dX0_isLeft_26 ?_
    refine G.land C dX0_isLeft_27 ?_
    refine G.lconst (v := (0 : Int64)) C dX0_isLeft_28 (by decide) ?_
    refine G.lcmp C dX0_isLeft_29 (G.if_eq (tgt := 37) C dX0_isLeft_30 (by decide) (fun hc => ?_) (fun hc => ?_))
    · have h := it_t h (lgc_eq.mp hc)
      refine G.iconst (v := (0 : Int32)) C dX0_isLeft_37 (by decide) ?_
      cases h
      exact G.zret C hr rfl dX0_isLeft_38
    · have h := it_f h ((not_congr lgc_eq).mp hc)
      refine G.iconst (v := (1 : Int32)) C dX0_isLeft_33 (by decide) ?_
      refine G.goto (tgt := 38) C dX0_isLeft_34 (by decide) ?_
      cases h
      exact G.zret C hr rfl dX0_isLeft_38
def f_X0_isLeft_50_11 (x2 : Int32) (M : Mm) : Option Int32 := bb_X0_isLeft_50_11_0 x2 M
theorem s_X0_isLeft_50_11 {l : Launch} {E : Ev} {x2 : Int32} {M : Mm} {v : Int32} (hE : Has shC (eH E)) (h : f_X0_isLeft_50_11 x2 M = some v) : MetA l yX0_isLeft cX0_isLeft 3 (some .boolean) 1 E [.ref (eA E 50), .ref (eA E 11), .int x2] M (some (.int v)) M := by
  refine MetA.of (by decide +kernel) (Nat.le_of_ble_eq_true rfl) ?_
  intro p e s m below meth c C hr hnm
  exact G.sub [0, 1, 2] rfl (gb_X0_isLeft_50_11_0 hE C hr  h)
def bb_X0_canBeDone_50_11_22 (k_22 : Int32 → Mm → Option Int32) (x2 : Int32) (M : Mm) : Option Int32 := if (M.1 11 9) ≤ x2 then (some (1 : Int32)) else (bd (f_X0_isLeft_50_11 x2 M) fun v_4 => if v_4 = 0 then (ltv (x2 + (1 : Int32)) fun x2_5 => k_22 x2_5 M) else (gd (inb x2 16) (bd (f_X0_bursts (M.2 50 1) (M.2 17 (ix x2))) fun v_8 => if v_8 = 0 then (ltv (x2 + (1 : Int32)) fun x2_9 => k_22 x2_9 M) else (some (0 : Int32)))))
set_option maxHeartbeats 4000000 in
set_option maxRecDepth 100000 in
theorem gb_X0_canBeDone_50_11_22  {k_22 : Int32 → Mm → Option Int32} {x2 : Int32} {M : Mm} {v : Int32} (hE : Has shC (eH E)) (C : Cx RX0 cX0_canBeDone 3 p (rmD 4) s m args meth c E) (hr : meth.sig.returnType = (some .boolean)) (hk_22 : ∀ (x2 : Int32) (M : Mm), k_22 x2 M = some v → G p l e (rmD 4) s m args below meth c E 3 0 0 (QR below args s E 0 0 (some (.int v)) M) 22 [(0, .ref (eA E 50)), (1, .ref (eA E 11)), (2, .int x2)] [] M) (h : bb_X0_canBeDone_50_11_22 k_22 x2 M = some v) : G p l e (rmD 4) s m args below meth c E 3 0 0 (QR below args s E 0 0 (some (.int v)) M) 22 [(0, .ref (eA E 50)), (1, .ref (eA E 11)), (2, .int x2)] [] M := by
  unfold bb_X0_canBeDone_50_11_22 at h
  refine G.iload_n C 2 dX0_canBeDone_22 rfl rfl ?_
  refine G.aload_n C 1 dX0_canBeDone_23 rfl rfl ?_
  refine G.getIN (k := 9) C k_X7 (sc_11 hE) rfl (by decide) tw_170 dX0_canBeDone_24 ?_
  refine G.icmp_ge (tgt := 63) C dX0_canBeDone_27 (by decide) (fun hc => ?_) (fun hc => ?_)
  · have h := it_t h hc
    refine G.iconst (v := (1 : Int32)) C dX0_canBeDone_63 (by decide) ?_
    cases h
    exact G.zret C hr rfl dX0_canBeDone_64
  · have h := it_f h hc
    refine G.aload_n C 0 dX0_canBeDone_30 rfl rfl ?_
    refine G.aload_n C 1 dX0_canBeDone_31 rfl rfl ?_
    refine G.iload_n C 2 dX0_canBeDone_32 rfl rfl ?_
    obtain ⟨v_4, hv_3, h⟩ := bd_ex h
    refine G.callV (rest := []) C (s_X0_isLeft_50_11 hE  hv_3) ⟨tg_555, tg_98, ok_X0_isLeft, Nat.le_of_ble_eq_true rfl, Nat.le_of_ble_eq_true rfl⟩ tg_552 tg_554 tg_1 (sc_50 hE) rfl rfl (Nat.le_of_ble_eq_true rfl) dX0_canBeDone_33 ⟨Nat.le_refl 0, Nat.le_refl 0⟩ ?_
    refine G.if_eq (tgt := 57) C dX0_canBeDone_36 (by decide) (fun hc => ?_) (fun hc => ?_)
    · have h := it_t h hc
      obtain ⟨x2_5, ex2_5, h⟩ := ltv_ex h
      refine G.iinc (L' := [(2, .int x2_5), (0, .ref (eA E 50)), (1, .ref (eA E 11))]) C 2 dX0_canBeDone_57 rfl (ex2_5.trans rfl) (by decide) rfl ?_
      refine G.goto (tgt := 22) C dX0_canBeDone_60 (by decide) ?_
      exact G.sub [1, 2, 0] rfl (hk_22 _ _  h)
    · have h := it_f h hc
      refine G.aload_n C 0 dX0_canBeDone_39 rfl rfl ?_
      refine G.getJ (k := 1) C k_X0 (sc_50 hE) rfl (by decide) tg_370 dX0_canBeDone_40 ?_
      refine G.aload_n C 1 dX0_canBeDone_43 rfl rfl ?_
      refine G.getRN (k := 5) C k_X7 (sc_11 hE) rfl (by decide) tw_152 dX0_canBeDone_44 ?_
      refine G.iload_n C 2 dX0_canBeDone_47 rfl rfl ?_
      obtain ⟨hg_6, h⟩ := gd_ex h
      refine G.aJ (j := ix x2) C (sc_17 hE) hg_6 rfl dX0_canBeDone_48 ?_
      obtain ⟨v_8, hv_7, h⟩ := bd_ex h
      refine G.callS (rest := []) C (s_X0_bursts  hv_7) ⟨tg_559, tg_98, ok_X0_bursts, Nat.le_of_ble_eq_true rfl, Nat.le_of_ble_eq_true rfl⟩ tg_557 tg_558 rfl (Nat.le_of_ble_eq_true rfl) dX0_canBeDone_49 ⟨Nat.le_refl 0, Nat.le_refl 0⟩ ?_
      refine G.if_eq (tgt := 57) C dX0_canBeDone_52 (by decide) (fun hc => ?_) (fun hc => ?_)
      · have h := it_t h hc
        obtain ⟨x2_9, ex2_9, h⟩ := ltv_ex h
        refine G.iinc (L' := [(2, .int x2_9), (0, .ref (eA E 50)), (1, .ref (eA E 11))]) C 2 dX0_canBeDone_57 rfl (ex2_9.trans rfl) (by decide) rfl ?_
        refine G.goto (tgt := 22) C dX0_canBeDone_60 (by decide) ?_
        exact G.sub [1, 2, 0] rfl (hk_22 _ _  h)
      · have h := it_f h hc
        refine G.iconst (v := (0 : Int32)) C dX0_canBeDone_55 (by decide) ?_
        cases h
        exact G.zret C hr rfl dX0_canBeDone_56
def b_X0_canBeDone_50_11_22 : Nat → Int32 → Mm → Option Int32
  | 0, _, _ => none
  | n + 1, x2, M => bb_X0_canBeDone_50_11_22 (b_X0_canBeDone_50_11_22 n) x2 M
set_option maxHeartbeats 4000000 in
theorem g_X0_canBeDone_50_11_22  {n : Nat} {x2 : Int32} {M : Mm} {v : Int32} (hE : Has shC (eH E)) (C : Cx RX0 cX0_canBeDone 3 p (rmD 4) s m args meth c E) (hr : meth.sig.returnType = (some .boolean)) (h : b_X0_canBeDone_50_11_22 n x2 M = some v) : G p l e (rmD 4) s m args below meth c E 3 0 0 (QR below args s E 0 0 (some (.int v)) M) 22 [(0, .ref (eA E 50)), (1, .ref (eA E 11)), (2, .int x2)] [] M := by
  induction n generalizing x2 M with
  | zero => cases h
  | succ n ih => exact gb_X0_canBeDone_50_11_22 hE C hr (fun _ _ => ih)  h
def bb_X0_canBeDone_50_11_0  (M : Mm) : Option Int32 := bd (f_X7_inkOf_11 (M.1 50 0) M) fun v_2 => if ((M.2 50 1) &&& v_2) = (0 : Int64) then (b_X0_canBeDone_50_11_22 FU (0 : Int32) M) else (some (0 : Int32))
set_option maxHeartbeats 4000000 in
set_option maxRecDepth 100000 in
theorem gb_X0_canBeDone_50_11_0   {M : Mm} {v : Int32} (hE : Has shC (eH E)) (C : Cx RX0 cX0_canBeDone 3 p (rmD 4) s m args meth c E) (hr : meth.sig.returnType = (some .boolean)) (h : bb_X0_canBeDone_50_11_0 M = some v) : G p l e (rmD 4) s m args below meth c E 3 0 0 (QR below args s E 0 0 (some (.int v)) M) 0 [(0, .ref (eA E 50)), (1, .ref (eA E 11))] [] M := by
  unfold bb_X0_canBeDone_50_11_0 at h
  refine G.aload_n C 0 dX0_canBeDone_0 rfl rfl ?_
  refine G.getJ (k := 1) C k_X0 (sc_50 hE) rfl (by decide) tg_370 dX0_canBeDone_1 ?_
  refine G.aload_n C 1 dX0_canBeDone_4 rfl rfl ?_
  refine G.aload_n C 0 dX0_canBeDone_5 rfl rfl ?_
  refine G.getI (k := 0) C k_X0 (sc_50 hE) rfl (by decide) tg_368 dX0_canBeDone_6 ?_
  obtain ⟨v_2, hv_1, h⟩ := bd_ex h
  refine G.callV (rest := [.long (M.2 50 1)]) C (s_X7_inkOf_11 hE  hv_1) ⟨tg_454, tg_92, ok_X7_inkOf, Nat.le_of_ble_eq_true rfl, Nat.le_of_ble_eq_true rfl⟩ tg_551 tg_452 tg_453 (sc_11 hE) rfl rfl (Nat.le_of_ble_eq_true rfl) dX0_canBeDone_9 ⟨Nat.le_refl 0, Nat.le_refl 0⟩ ?_
  refine G.land C dX0_canBeDone_12 ?_
  refine G.lconst (v := (0 : Int64)) C dX0_canBeDone_13 (by decide) ?_
  refine G.lcmp C dX0_canBeDone_14 (G.if_eq (tgt := 20) C dX0_canBeDone_15 (by decide) (fun hc => ?_) (fun hc => ?_))
  · have h := it_t h (lgc_eq.mp hc)
    refine G.iconst (v := (0 : Int32)) C dX0_canBeDone_20 (by decide) ?_
    refine G.istore_n (L' := [(2, .int (0 : Int32)), (0, .ref (eA E 50)), (1, .ref (eA E 11))]) C dX0_canBeDone_21 rfl rfl (by decide) rfl ?_
    exact G.sub [1, 2, 0] rfl (g_X0_canBeDone_50_11_22 hE C hr  h)
  · have h := it_f h ((not_congr lgc_eq).mp hc)
    refine G.iconst (v := (0 : Int32)) C dX0_canBeDone_18 (by decide) ?_
    cases h
    exact G.zret C hr rfl dX0_canBeDone_19
def f_X0_canBeDone_50_11  (M : Mm) : Option Int32 := bb_X0_canBeDone_50_11_0 M
theorem s_X0_canBeDone_50_11 {l : Launch} {E : Ev}  {M : Mm} {v : Int32} (hE : Has shC (eH E)) (h : f_X0_canBeDone_50_11 M = some v) : MetA l yX0_canBeDone cX0_canBeDone 3 (some .boolean) 4 E [.ref (eA E 50), .ref (eA E 11)] M (some (.int v)) M := by
  refine MetA.of (by decide +kernel) (Nat.le_of_ble_eq_true rfl) ?_
  intro p e s m below meth c C hr hnm
  exact G.sub [0, 1] rfl (gb_X0_canBeDone_50_11_0 hE C hr  h)
def bb_X0_hollowsLeft_50_11_4 (k_4 : Int32 → Int32 → Mm → Option Int32) (x2 : Int32) (x3 : Int32) (M : Mm) : Option Int32 := if (M.1 11 9) ≤ x3 then (some x2) else (bd (f_X0_isLeft_50_11 x3 M) fun v_2 => if v_2 = 0 then (ltv (x3 + (1 : Int32)) fun x3_3 => k_4 x2 x3_3 M) else (ltv (x2 + (1 : Int32)) fun x2_4 => ltv (x3 + (1 : Int32)) fun x3_5 => k_4 x2_4 x3_5 M))
set_option maxHeartbeats 4000000 in
set_option maxRecDepth 100000 in
theorem gb_X0_hollowsLeft_50_11_4  {k_4 : Int32 → Int32 → Mm → Option Int32} {x2 : Int32} {x3 : Int32} {M : Mm} {v : Int32} (hE : Has shC (eH E)) (C : Cx RX0 cX0_hollowsLeft 4 p (rmD 2) s m args meth c E) (hr : meth.sig.returnType = (some .int)) (hk_4 : ∀ (x2 : Int32) (x3 : Int32) (M : Mm), k_4 x2 x3 M = some v → G p l e (rmD 2) s m args below meth c E 4 0 0 (QR below args s E 0 0 (some (.int v)) M) 4 [(0, .ref (eA E 50)), (1, .ref (eA E 11)), (2, .int x2), (3, .int x3)] [] M) (h : bb_X0_hollowsLeft_50_11_4 k_4 x2 x3 M = some v) : G p l e (rmD 2) s m args below meth c E 4 0 0 (QR below args s E 0 0 (some (.int v)) M) 4 [(0, .ref (eA E 50)), (1, .ref (eA E 11)), (2, .int x2), (3, .int x3)] [] M := by
  unfold bb_X0_hollowsLeft_50_11_4 at h
  refine G.iload_n C 3 dX0_hollowsLeft_4 rfl rfl ?_
  refine G.aload_n C 1 dX0_hollowsLeft_5 rfl rfl ?_
  refine G.getIN (k := 9) C k_X7 (sc_11 hE) rfl (by decide) tw_170 dX0_hollowsLeft_6 ?_
  refine G.icmp_ge (tgt := 30) C dX0_hollowsLeft_9 (by decide) (fun hc => ?_) (fun hc => ?_)
  · have h := it_t h hc
    refine G.iload_n C 2 dX0_hollowsLeft_30 rfl rfl ?_
    cases h
    exact G.iret C hr dX0_hollowsLeft_31
  · have h := it_f h hc
    refine G.aload_n C 0 dX0_hollowsLeft_12 rfl rfl ?_
    refine G.aload_n C 1 dX0_hollowsLeft_13 rfl rfl ?_
    refine G.iload_n C 3 dX0_hollowsLeft_14 rfl rfl ?_
    obtain ⟨v_2, hv_1, h⟩ := bd_ex h
    refine G.callV (rest := []) C (s_X0_isLeft_50_11 hE  hv_1) ⟨tg_555, tg_98, ok_X0_isLeft, Nat.le_of_ble_eq_true rfl, Nat.le_of_ble_eq_true rfl⟩ tg_552 tg_554 tg_1 (sc_50 hE) rfl rfl (Nat.le_of_ble_eq_true rfl) dX0_hollowsLeft_15 ⟨Nat.le_refl 0, Nat.le_refl 0⟩ ?_
    refine G.if_eq (tgt := 24) C dX0_hollowsLeft_18 (by decide) (fun hc => ?_) (fun hc => ?_)
    · have h := it_t h hc
      obtain ⟨x3_3, ex3_3, h⟩ := ltv_ex h
      refine G.iinc (L' := [(3, .int x3_3), (0, .ref (eA E 50)), (1, .ref (eA E 11)), (2, .int x2)]) C 3 dX0_hollowsLeft_24 rfl (ex3_3.trans rfl) (by decide) rfl ?_
      refine G.goto (tgt := 4) C dX0_hollowsLeft_27 (by decide) ?_
      exact G.sub [1, 2, 3, 0] rfl (hk_4 _ _ _  h)
    · have h := it_f h hc
      obtain ⟨x2_4, ex2_4, h⟩ := ltv_ex h
      refine G.iinc (L' := [(2, .int x2_4), (0, .ref (eA E 50)), (1, .ref (eA E 11)), (3, .int x3)]) C 2 dX0_hollowsLeft_21 rfl (ex2_4.trans rfl) (by decide) rfl ?_
      obtain ⟨x3_5, ex3_5, h⟩ := ltv_ex h
      refine G.iinc (L' := [(3, .int x3_5), (2, .int x2_4), (0, .ref (eA E 50)), (1, .ref (eA E 11))]) C 3 dX0_hollowsLeft_24 rfl (ex3_5.trans rfl) (by decide) rfl ?_
      refine G.goto (tgt := 4) C dX0_hollowsLeft_27 (by decide) ?_
      exact G.sub [2, 3, 1, 0] rfl (hk_4 _ _ _  h)
def b_X0_hollowsLeft_50_11_4 : Nat → Int32 → Int32 → Mm → Option Int32
  | 0, _, _, _ => none
  | n + 1, x2, x3, M => bb_X0_hollowsLeft_50_11_4 (b_X0_hollowsLeft_50_11_4 n) x2 x3 M
set_option maxHeartbeats 4000000 in
theorem g_X0_hollowsLeft_50_11_4  {n : Nat} {x2 : Int32} {x3 : Int32} {M : Mm} {v : Int32} (hE : Has shC (eH E)) (C : Cx RX0 cX0_hollowsLeft 4 p (rmD 2) s m args meth c E) (hr : meth.sig.returnType = (some .int)) (h : b_X0_hollowsLeft_50_11_4 n x2 x3 M = some v) : G p l e (rmD 2) s m args below meth c E 4 0 0 (QR below args s E 0 0 (some (.int v)) M) 4 [(0, .ref (eA E 50)), (1, .ref (eA E 11)), (2, .int x2), (3, .int x3)] [] M := by
  induction n generalizing x2 x3 M with
  | zero => cases h
  | succ n ih => exact gb_X0_hollowsLeft_50_11_4 hE C hr (fun _ _ _ => ih)  h
def bb_X0_hollowsLeft_50_11_0  (M : Mm) : Option Int32 := b_X0_hollowsLeft_50_11_4 FU (0 : Int32) (0 : Int32) M
set_option maxHeartbeats 4000000 in
set_option maxRecDepth 100000 in
theorem gb_X0_hollowsLeft_50_11_0   {M : Mm} {v : Int32} (hE : Has shC (eH E)) (C : Cx RX0 cX0_hollowsLeft 4 p (rmD 2) s m args meth c E) (hr : meth.sig.returnType = (some .int)) (h : bb_X0_hollowsLeft_50_11_0 M = some v) : G p l e (rmD 2) s m args below meth c E 4 0 0 (QR below args s E 0 0 (some (.int v)) M) 0 [(0, .ref (eA E 50)), (1, .ref (eA E 11))] [] M := by
  unfold bb_X0_hollowsLeft_50_11_0 at h
  refine G.iconst (v := (0 : Int32)) C dX0_hollowsLeft_0 (by decide) ?_
  refine G.istore_n (L' := [(2, .int (0 : Int32)), (0, .ref (eA E 50)), (1, .ref (eA E 11))]) C dX0_hollowsLeft_1 rfl rfl (by decide) rfl ?_
  refine G.iconst (v := (0 : Int32)) C dX0_hollowsLeft_2 (by decide) ?_
  refine G.istore_n (L' := [(3, .int (0 : Int32)), (2, .int (0 : Int32)), (0, .ref (eA E 50)), (1, .ref (eA E 11))]) C dX0_hollowsLeft_3 rfl rfl (by decide) rfl ?_
  exact G.sub [2, 3, 1, 0] rfl (g_X0_hollowsLeft_50_11_4 hE C hr  h)
def f_X0_hollowsLeft_50_11  (M : Mm) : Option Int32 := bb_X0_hollowsLeft_50_11_0 M
theorem s_X0_hollowsLeft_50_11 {l : Launch} {E : Ev}  {M : Mm} {v : Int32} (hE : Has shC (eH E)) (h : f_X0_hollowsLeft_50_11 M = some v) : MetA l yX0_hollowsLeft cX0_hollowsLeft 4 (some .int) 2 E [.ref (eA E 50), .ref (eA E 11)] M (some (.int v)) M := by
  refine MetA.of (by decide +kernel) (Nat.le_of_ble_eq_true rfl) ?_
  intro p e s m below meth c C hr hnm
  exact G.sub [0, 1] rfl (gb_X0_hollowsLeft_50_11_0 hE C hr  h)
def bb_X0_copyOf_50_55_0  (M : Mm) : Option Mm := ltv (wI M 50 0 (M.1 55 0)) fun M_1 => ltv (wJ M_1 50 1 (M_1.2 55 1)) fun M_2 => gd (isB (M_2.1 55 2)) (ltv (wI M_2 50 2 (M_2.1 55 2)) fun M_4 => ltv (wI M_4 50 5 (M_4.1 55 5)) fun M_5 => ltv (wI M_5 50 7 (M_5.1 55 7)) fun M_6 => ltv (cpI M_6 56 51 40) fun M_7 => ltv (cpJ M_7 57 52 40) fun M_8 => ltv (cpJ M_8 58 53 8) fun M_9 => some M_9)
set_option maxHeartbeats 4000000 in
set_option maxRecDepth 100000 in
theorem gb_X0_copyOf_50_55_0   {M : Mm} {M' : Mm} (hE : Has shC (eH E)) (C : Cx RX0 cX0_copyOf 2 p (rmD 1) s m args meth c E) (hr : meth.sig.returnType = none) (h : bb_X0_copyOf_50_55_0 M = some M') : G p l e (rmD 1) s m args below meth c E 2 0 0 (QR below args s E 0 0 none M') 0 [(0, .ref (eA E 50)), (1, .ref (eA E 55))] [] M := by
  unfold bb_X0_copyOf_50_55_0 at h
  refine G.aload_n C 0 dX0_copyOf_0 rfl rfl ?_
  refine G.aload_n C 1 dX0_copyOf_1 rfl rfl ?_
  refine G.getI (k := 0) C k_X0 (sc_55 hE) rfl (by decide) tg_368 dX0_copyOf_2 ?_
  obtain ⟨M_1, eM_1, h⟩ := ltv_ex h
  refine G.putI (k := 0) C k_X0 (sc_50 hE) rfl (by decide) tg_368 rfl rfl dX0_copyOf_5 eM_1 ?_
  refine G.aload_n C 0 dX0_copyOf_8 rfl rfl ?_
  refine G.aload_n C 1 dX0_copyOf_9 rfl rfl ?_
  refine G.getJ (k := 1) C k_X0 (sc_55 hE) rfl (by decide) tg_370 dX0_copyOf_10 ?_
  obtain ⟨M_2, eM_2, h⟩ := ltv_ex h
  refine G.putJ (k := 1) C k_X0 (sc_50 hE) rfl (by decide) tg_370 rfl rfl dX0_copyOf_13 eM_2 ?_
  refine G.aload_n C 0 dX0_copyOf_16 rfl rfl ?_
  refine G.aload_n C 1 dX0_copyOf_17 rfl rfl ?_
  refine G.getZ (k := 2) C k_X0 (sc_55 hE) rfl (by decide) tg_372 dX0_copyOf_18 ?_
  obtain ⟨hb_3, h⟩ := gd_ex h
  obtain ⟨M_4, eM_4, h⟩ := ltv_ex h
  refine G.putZ (k := 2) C k_X0 (sc_50 hE) rfl (by decide) tg_372 rfl rfl (isB_s hb_3) dX0_copyOf_21 eM_4 ?_
  refine G.aload_n C 0 dX0_copyOf_24 rfl rfl ?_
  refine G.aload_n C 1 dX0_copyOf_25 rfl rfl ?_
  refine G.getI (k := 5) C k_X0 (sc_55 hE) rfl (by decide) tg_376 dX0_copyOf_26 ?_
  obtain ⟨M_5, eM_5, h⟩ := ltv_ex h
  refine G.putI (k := 5) C k_X0 (sc_50 hE) rfl (by decide) tg_376 rfl rfl dX0_copyOf_29 eM_5 ?_
  refine G.aload_n C 0 dX0_copyOf_32 rfl rfl ?_
  refine G.aload_n C 1 dX0_copyOf_33 rfl rfl ?_
  refine G.getI (k := 7) C k_X0 (sc_55 hE) rfl (by decide) tg_381 dX0_copyOf_34 ?_
  obtain ⟨M_6, eM_6, h⟩ := ltv_ex h
  refine G.putI (k := 7) C k_X0 (sc_50 hE) rfl (by decide) tg_381 rfl rfl dX0_copyOf_37 eM_6 ?_
  refine G.aload_n C 1 dX0_copyOf_40 rfl rfl ?_
  refine G.getR (k := 3) C k_X0 (sc_55 hE) rfl (by decide) tg_374 dX0_copyOf_41 ?_
  refine G.iconst (v := (0 : Int32)) C dX0_copyOf_44 (by decide) ?_
  refine G.aload_n C 0 dX0_copyOf_45 rfl rfl ?_
  refine G.getR (k := 3) C k_X0 (sc_50 hE) rfl (by decide) tg_374 dX0_copyOf_46 ?_
  refine G.iconst (v := (0 : Int32)) C dX0_copyOf_49 (by decide) ?_
  refine G.bipush (v := (40 : Int32)) C dX0_copyOf_50 (by decide) ?_
  obtain ⟨M_7, eM_7, h⟩ := ltv_ex h
  refine G.copyI (rest := []) (n := 40) C (sc_56 hE) (sc_51 hE) tg_620 tg_622 tg_621 tg_112 (by decide) (by decide) (by decide) (by decide) ⟨Nat.le_of_ble_eq_true rfl, Nat.le_of_ble_eq_true rfl⟩ (Nat.le_of_ble_eq_true rfl) dX0_copyOf_52 eM_7 ?_
  refine G.aload_n C 1 dX0_copyOf_55 rfl rfl ?_
  refine G.getR (k := 4) C k_X0 (sc_55 hE) rfl (by decide) tg_375 dX0_copyOf_56 ?_
  refine G.iconst (v := (0 : Int32)) C dX0_copyOf_59 (by decide) ?_
  refine G.aload_n C 0 dX0_copyOf_60 rfl rfl ?_
  refine G.getR (k := 4) C k_X0 (sc_50 hE) rfl (by decide) tg_375 dX0_copyOf_61 ?_
  refine G.iconst (v := (0 : Int32)) C dX0_copyOf_64 (by decide) ?_
  refine G.bipush (v := (40 : Int32)) C dX0_copyOf_65 (by decide) ?_
  obtain ⟨M_8, eM_8, h⟩ := ltv_ex h
  refine G.copyJ (rest := []) (n := 40) C (sc_57 hE) (sc_52 hE) tg_620 tg_622 tg_621 tg_112 (by decide) (by decide) (by decide) (by decide) ⟨Nat.le_of_ble_eq_true rfl, Nat.le_of_ble_eq_true rfl⟩ (Nat.le_of_ble_eq_true rfl) dX0_copyOf_67 eM_8 ?_
  refine G.aload_n C 1 dX0_copyOf_70 rfl rfl ?_
  refine G.getR (k := 6) C k_X0 (sc_55 hE) rfl (by decide) tg_378 dX0_copyOf_71 ?_
  refine G.iconst (v := (0 : Int32)) C dX0_copyOf_74 (by decide) ?_
  refine G.aload_n C 0 dX0_copyOf_75 rfl rfl ?_
  refine G.getR (k := 6) C k_X0 (sc_50 hE) rfl (by decide) tg_378 dX0_copyOf_76 ?_
  refine G.iconst (v := (0 : Int32)) C dX0_copyOf_79 (by decide) ?_
  refine G.bipush (v := (8 : Int32)) C dX0_copyOf_80 (by decide) ?_
  obtain ⟨M_9, eM_9, h⟩ := ltv_ex h
  refine G.copyJ (rest := []) (n := 8) C (sc_58 hE) (sc_53 hE) tg_620 tg_622 tg_621 tg_112 (by decide) (by decide) (by decide) (by decide) ⟨Nat.le_of_ble_eq_true rfl, Nat.le_of_ble_eq_true rfl⟩ (Nat.le_of_ble_eq_true rfl) dX0_copyOf_82 eM_9 ?_
  cases h
  exact G.vret C hr dX0_copyOf_85
def f_X0_copyOf_50_55  (M : Mm) : Option Mm := bb_X0_copyOf_50_55_0 M
theorem s_X0_copyOf_50_55 {l : Launch} {E : Ev}  {M : Mm} {M' : Mm} (hE : Has shC (eH E)) (h : f_X0_copyOf_50_55 M = some M') : MetA l yX0_copyOf cX0_copyOf 2 none 1 E [.ref (eA E 50), .ref (eA E 55)] M none M' := by
  refine MetA.of (by decide +kernel) (Nat.le_of_ble_eq_true rfl) ?_
  intro p e s m below meth c C hr hnm
  exact G.sub [0, 1] rfl (gb_X0_copyOf_50_55_0 hE C hr  h)
def bb_X0_copyOf_55_50_0  (M : Mm) : Option Mm := ltv (wI M 55 0 (M.1 50 0)) fun M_1 => ltv (wJ M_1 55 1 (M_1.2 50 1)) fun M_2 => gd (isB (M_2.1 50 2)) (ltv (wI M_2 55 2 (M_2.1 50 2)) fun M_4 => ltv (wI M_4 55 5 (M_4.1 50 5)) fun M_5 => ltv (wI M_5 55 7 (M_5.1 50 7)) fun M_6 => ltv (cpI M_6 51 56 40) fun M_7 => ltv (cpJ M_7 52 57 40) fun M_8 => ltv (cpJ M_8 53 58 8) fun M_9 => some M_9)
set_option maxHeartbeats 4000000 in
set_option maxRecDepth 100000 in
theorem gb_X0_copyOf_55_50_0   {M : Mm} {M' : Mm} (hE : Has shC (eH E)) (C : Cx RX0 cX0_copyOf 2 p (rmD 1) s m args meth c E) (hr : meth.sig.returnType = none) (h : bb_X0_copyOf_55_50_0 M = some M') : G p l e (rmD 1) s m args below meth c E 2 0 0 (QR below args s E 0 0 none M') 0 [(0, .ref (eA E 55)), (1, .ref (eA E 50))] [] M := by
  unfold bb_X0_copyOf_55_50_0 at h
  refine G.aload_n C 0 dX0_copyOf_0 rfl rfl ?_
  refine G.aload_n C 1 dX0_copyOf_1 rfl rfl ?_
  refine G.getI (k := 0) C k_X0 (sc_50 hE) rfl (by decide) tg_368 dX0_copyOf_2 ?_
  obtain ⟨M_1, eM_1, h⟩ := ltv_ex h
  refine G.putI (k := 0) C k_X0 (sc_55 hE) rfl (by decide) tg_368 rfl rfl dX0_copyOf_5 eM_1 ?_
  refine G.aload_n C 0 dX0_copyOf_8 rfl rfl ?_
  refine G.aload_n C 1 dX0_copyOf_9 rfl rfl ?_
  refine G.getJ (k := 1) C k_X0 (sc_50 hE) rfl (by decide) tg_370 dX0_copyOf_10 ?_
  obtain ⟨M_2, eM_2, h⟩ := ltv_ex h
  refine G.putJ (k := 1) C k_X0 (sc_55 hE) rfl (by decide) tg_370 rfl rfl dX0_copyOf_13 eM_2 ?_
  refine G.aload_n C 0 dX0_copyOf_16 rfl rfl ?_
  refine G.aload_n C 1 dX0_copyOf_17 rfl rfl ?_
  refine G.getZ (k := 2) C k_X0 (sc_50 hE) rfl (by decide) tg_372 dX0_copyOf_18 ?_
  obtain ⟨hb_3, h⟩ := gd_ex h
  obtain ⟨M_4, eM_4, h⟩ := ltv_ex h
  refine G.putZ (k := 2) C k_X0 (sc_55 hE) rfl (by decide) tg_372 rfl rfl (isB_s hb_3) dX0_copyOf_21 eM_4 ?_
  refine G.aload_n C 0 dX0_copyOf_24 rfl rfl ?_
  refine G.aload_n C 1 dX0_copyOf_25 rfl rfl ?_
  refine G.getI (k := 5) C k_X0 (sc_50 hE) rfl (by decide) tg_376 dX0_copyOf_26 ?_
  obtain ⟨M_5, eM_5, h⟩ := ltv_ex h
  refine G.putI (k := 5) C k_X0 (sc_55 hE) rfl (by decide) tg_376 rfl rfl dX0_copyOf_29 eM_5 ?_
  refine G.aload_n C 0 dX0_copyOf_32 rfl rfl ?_
  refine G.aload_n C 1 dX0_copyOf_33 rfl rfl ?_
  refine G.getI (k := 7) C k_X0 (sc_50 hE) rfl (by decide) tg_381 dX0_copyOf_34 ?_
  obtain ⟨M_6, eM_6, h⟩ := ltv_ex h
  refine G.putI (k := 7) C k_X0 (sc_55 hE) rfl (by decide) tg_381 rfl rfl dX0_copyOf_37 eM_6 ?_
  refine G.aload_n C 1 dX0_copyOf_40 rfl rfl ?_
  refine G.getR (k := 3) C k_X0 (sc_50 hE) rfl (by decide) tg_374 dX0_copyOf_41 ?_
  refine G.iconst (v := (0 : Int32)) C dX0_copyOf_44 (by decide) ?_
  refine G.aload_n C 0 dX0_copyOf_45 rfl rfl ?_
  refine G.getR (k := 3) C k_X0 (sc_55 hE) rfl (by decide) tg_374 dX0_copyOf_46 ?_
  refine G.iconst (v := (0 : Int32)) C dX0_copyOf_49 (by decide) ?_
  refine G.bipush (v := (40 : Int32)) C dX0_copyOf_50 (by decide) ?_
  obtain ⟨M_7, eM_7, h⟩ := ltv_ex h
  refine G.copyI (rest := []) (n := 40) C (sc_51 hE) (sc_56 hE) tg_620 tg_622 tg_621 tg_112 (by decide) (by decide) (by decide) (by decide) ⟨Nat.le_of_ble_eq_true rfl, Nat.le_of_ble_eq_true rfl⟩ (Nat.le_of_ble_eq_true rfl) dX0_copyOf_52 eM_7 ?_
  refine G.aload_n C 1 dX0_copyOf_55 rfl rfl ?_
  refine G.getR (k := 4) C k_X0 (sc_50 hE) rfl (by decide) tg_375 dX0_copyOf_56 ?_
  refine G.iconst (v := (0 : Int32)) C dX0_copyOf_59 (by decide) ?_
  refine G.aload_n C 0 dX0_copyOf_60 rfl rfl ?_
  refine G.getR (k := 4) C k_X0 (sc_55 hE) rfl (by decide) tg_375 dX0_copyOf_61 ?_
  refine G.iconst (v := (0 : Int32)) C dX0_copyOf_64 (by decide) ?_
  refine G.bipush (v := (40 : Int32)) C dX0_copyOf_65 (by decide) ?_
  obtain ⟨M_8, eM_8, h⟩ := ltv_ex h
  refine G.copyJ (rest := []) (n := 40) C (sc_52 hE) (sc_57 hE) tg_620 tg_622 tg_621 tg_112 (by decide) (by decide) (by decide) (by decide) ⟨Nat.le_of_ble_eq_true rfl, Nat.le_of_ble_eq_true rfl⟩ (Nat.le_of_ble_eq_true rfl) dX0_copyOf_67 eM_8 ?_
  refine G.aload_n C 1 dX0_copyOf_70 rfl rfl ?_
  refine G.getR (k := 6) C k_X0 (sc_50 hE) rfl (by decide) tg_378 dX0_copyOf_71 ?_
  refine G.iconst (v := (0 : Int32)) C dX0_copyOf_74 (by decide) ?_
  refine G.aload_n C 0 dX0_copyOf_75 rfl rfl ?_
  refine G.getR (k := 6) C k_X0 (sc_55 hE) rfl (by decide) tg_378 dX0_copyOf_76 ?_
  refine G.iconst (v := (0 : Int32)) C dX0_copyOf_79 (by decide) ?_
  refine G.bipush (v := (8 : Int32)) C dX0_copyOf_80 (by decide) ?_
  obtain ⟨M_9, eM_9, h⟩ := ltv_ex h
  refine G.copyJ (rest := []) (n := 8) C (sc_53 hE) (sc_58 hE) tg_620 tg_622 tg_621 tg_112 (by decide) (by decide) (by decide) (by decide) ⟨Nat.le_of_ble_eq_true rfl, Nat.le_of_ble_eq_true rfl⟩ (Nat.le_of_ble_eq_true rfl) dX0_copyOf_82 eM_9 ?_
  cases h
  exact G.vret C hr dX0_copyOf_85
def f_X0_copyOf_55_50  (M : Mm) : Option Mm := bb_X0_copyOf_55_50_0 M
theorem s_X0_copyOf_55_50 {l : Launch} {E : Ev}  {M : Mm} {M' : Mm} (hE : Has shC (eH E)) (h : f_X0_copyOf_55_50 M = some M') : MetA l yX0_copyOf cX0_copyOf 2 none 1 E [.ref (eA E 55), .ref (eA E 50)] M none M' := by
  refine MetA.of (by decide +kernel) (Nat.le_of_ble_eq_true rfl) ?_
  intro p e s m below meth c C hr hnm
  exact G.sub [0, 1] rfl (gb_X0_copyOf_55_50_0 hE C hr  h)
def bb_X0_copyOf_50_59_0  (M : Mm) : Option Mm := ltv (wI M 50 0 (M.1 59 0)) fun M_1 => ltv (wJ M_1 50 1 (M_1.2 59 1)) fun M_2 => gd (isB (M_2.1 59 2)) (ltv (wI M_2 50 2 (M_2.1 59 2)) fun M_4 => ltv (wI M_4 50 5 (M_4.1 59 5)) fun M_5 => ltv (wI M_5 50 7 (M_5.1 59 7)) fun M_6 => ltv (cpI M_6 60 51 40) fun M_7 => ltv (cpJ M_7 61 52 40) fun M_8 => ltv (cpJ M_8 62 53 8) fun M_9 => some M_9)
set_option maxHeartbeats 4000000 in
set_option maxRecDepth 100000 in
theorem gb_X0_copyOf_50_59_0   {M : Mm} {M' : Mm} (hE : Has shC (eH E)) (C : Cx RX0 cX0_copyOf 2 p (rmD 1) s m args meth c E) (hr : meth.sig.returnType = none) (h : bb_X0_copyOf_50_59_0 M = some M') : G p l e (rmD 1) s m args below meth c E 2 0 0 (QR below args s E 0 0 none M') 0 [(0, .ref (eA E 50)), (1, .ref (eA E 59))] [] M := by
  unfold bb_X0_copyOf_50_59_0 at h
  refine G.aload_n C 0 dX0_copyOf_0 rfl rfl ?_
  refine G.aload_n C 1 dX0_copyOf_1 rfl rfl ?_
  refine G.getI (k := 0) C k_X0 (sc_59 hE) rfl (by decide) tg_368 dX0_copyOf_2 ?_
  obtain ⟨M_1, eM_1, h⟩ := ltv_ex h
  refine G.putI (k := 0) C k_X0 (sc_50 hE) rfl (by decide) tg_368 rfl rfl dX0_copyOf_5 eM_1 ?_
  refine G.aload_n C 0 dX0_copyOf_8 rfl rfl ?_
  refine G.aload_n C 1 dX0_copyOf_9 rfl rfl ?_
  refine G.getJ (k := 1) C k_X0 (sc_59 hE) rfl (by decide) tg_370 dX0_copyOf_10 ?_
  obtain ⟨M_2, eM_2, h⟩ := ltv_ex h
  refine G.putJ (k := 1) C k_X0 (sc_50 hE) rfl (by decide) tg_370 rfl rfl dX0_copyOf_13 eM_2 ?_
  refine G.aload_n C 0 dX0_copyOf_16 rfl rfl ?_
  refine G.aload_n C 1 dX0_copyOf_17 rfl rfl ?_
  refine G.getZ (k := 2) C k_X0 (sc_59 hE) rfl (by decide) tg_372 dX0_copyOf_18 ?_
  obtain ⟨hb_3, h⟩ := gd_ex h
  obtain ⟨M_4, eM_4, h⟩ := ltv_ex h
  refine G.putZ (k := 2) C k_X0 (sc_50 hE) rfl (by decide) tg_372 rfl rfl (isB_s hb_3) dX0_copyOf_21 eM_4 ?_
  refine G.aload_n C 0 dX0_copyOf_24 rfl rfl ?_
  refine G.aload_n C 1 dX0_copyOf_25 rfl rfl ?_
  refine G.getI (k := 5) C k_X0 (sc_59 hE) rfl (by decide) tg_376 dX0_copyOf_26 ?_
  obtain ⟨M_5, eM_5, h⟩ := ltv_ex h
  refine G.putI (k := 5) C k_X0 (sc_50 hE) rfl (by decide) tg_376 rfl rfl dX0_copyOf_29 eM_5 ?_
  refine G.aload_n C 0 dX0_copyOf_32 rfl rfl ?_
  refine G.aload_n C 1 dX0_copyOf_33 rfl rfl ?_
  refine G.getI (k := 7) C k_X0 (sc_59 hE) rfl (by decide) tg_381 dX0_copyOf_34 ?_
  obtain ⟨M_6, eM_6, h⟩ := ltv_ex h
  refine G.putI (k := 7) C k_X0 (sc_50 hE) rfl (by decide) tg_381 rfl rfl dX0_copyOf_37 eM_6 ?_
  refine G.aload_n C 1 dX0_copyOf_40 rfl rfl ?_
  refine G.getR (k := 3) C k_X0 (sc_59 hE) rfl (by decide) tg_374 dX0_copyOf_41 ?_
  refine G.iconst (v := (0 : Int32)) C dX0_copyOf_44 (by decide) ?_
  refine G.aload_n C 0 dX0_copyOf_45 rfl rfl ?_
  refine G.getR (k := 3) C k_X0 (sc_50 hE) rfl (by decide) tg_374 dX0_copyOf_46 ?_
  refine G.iconst (v := (0 : Int32)) C dX0_copyOf_49 (by decide) ?_
  refine G.bipush (v := (40 : Int32)) C dX0_copyOf_50 (by decide) ?_
  obtain ⟨M_7, eM_7, h⟩ := ltv_ex h
  refine G.copyI (rest := []) (n := 40) C (sc_60 hE) (sc_51 hE) tg_620 tg_622 tg_621 tg_112 (by decide) (by decide) (by decide) (by decide) ⟨Nat.le_of_ble_eq_true rfl, Nat.le_of_ble_eq_true rfl⟩ (Nat.le_of_ble_eq_true rfl) dX0_copyOf_52 eM_7 ?_
  refine G.aload_n C 1 dX0_copyOf_55 rfl rfl ?_
  refine G.getR (k := 4) C k_X0 (sc_59 hE) rfl (by decide) tg_375 dX0_copyOf_56 ?_
  refine G.iconst (v := (0 : Int32)) C dX0_copyOf_59 (by decide) ?_
  refine G.aload_n C 0 dX0_copyOf_60 rfl rfl ?_
  refine G.getR (k := 4) C k_X0 (sc_50 hE) rfl (by decide) tg_375 dX0_copyOf_61 ?_
  refine G.iconst (v := (0 : Int32)) C dX0_copyOf_64 (by decide) ?_
  refine G.bipush (v := (40 : Int32)) C dX0_copyOf_65 (by decide) ?_
  obtain ⟨M_8, eM_8, h⟩ := ltv_ex h
  refine G.copyJ (rest := []) (n := 40) C (sc_61 hE) (sc_52 hE) tg_620 tg_622 tg_621 tg_112 (by decide) (by decide) (by decide) (by decide) ⟨Nat.le_of_ble_eq_true rfl, Nat.le_of_ble_eq_true rfl⟩ (Nat.le_of_ble_eq_true rfl) dX0_copyOf_67 eM_8 ?_
  refine G.aload_n C 1 dX0_copyOf_70 rfl rfl ?_
  refine G.getR (k := 6) C k_X0 (sc_59 hE) rfl (by decide) tg_378 dX0_copyOf_71 ?_
  refine G.iconst (v := (0 : Int32)) C dX0_copyOf_74 (by decide) ?_
  refine G.aload_n C 0 dX0_copyOf_75 rfl rfl ?_
  refine G.getR (k := 6) C k_X0 (sc_50 hE) rfl (by decide) tg_378 dX0_copyOf_76 ?_
  refine G.iconst (v := (0 : Int32)) C dX0_copyOf_79 (by decide) ?_
  refine G.bipush (v := (8 : Int32)) C dX0_copyOf_80 (by decide) ?_
  obtain ⟨M_9, eM_9, h⟩ := ltv_ex h
  refine G.copyJ (rest := []) (n := 8) C (sc_62 hE) (sc_53 hE) tg_620 tg_622 tg_621 tg_112 (by decide) (by decide) (by decide) (by decide) ⟨Nat.le_of_ble_eq_true rfl, Nat.le_of_ble_eq_true rfl⟩ (Nat.le_of_ble_eq_true rfl) dX0_copyOf_82 eM_9 ?_
  cases h
  exact G.vret C hr dX0_copyOf_85
def f_X0_copyOf_50_59  (M : Mm) : Option Mm := bb_X0_copyOf_50_59_0 M
theorem s_X0_copyOf_50_59 {l : Launch} {E : Ev}  {M : Mm} {M' : Mm} (hE : Has shC (eH E)) (h : f_X0_copyOf_50_59 M = some M') : MetA l yX0_copyOf cX0_copyOf 2 none 1 E [.ref (eA E 50), .ref (eA E 59)] M none M' := by
  refine MetA.of (by decide +kernel) (Nat.le_of_ble_eq_true rfl) ?_
  intro p e s m below meth c C hr hnm
  exact G.sub [0, 1] rfl (gb_X0_copyOf_50_59_0 hE C hr  h)
def bb_X0_copyOf_59_50_0  (M : Mm) : Option Mm := ltv (wI M 59 0 (M.1 50 0)) fun M_1 => ltv (wJ M_1 59 1 (M_1.2 50 1)) fun M_2 => gd (isB (M_2.1 50 2)) (ltv (wI M_2 59 2 (M_2.1 50 2)) fun M_4 => ltv (wI M_4 59 5 (M_4.1 50 5)) fun M_5 => ltv (wI M_5 59 7 (M_5.1 50 7)) fun M_6 => ltv (cpI M_6 51 60 40) fun M_7 => ltv (cpJ M_7 52 61 40) fun M_8 => ltv (cpJ M_8 53 62 8) fun M_9 => some M_9)
set_option maxHeartbeats 4000000 in
set_option maxRecDepth 100000 in
theorem gb_X0_copyOf_59_50_0   {M : Mm} {M' : Mm} (hE : Has shC (eH E)) (C : Cx RX0 cX0_copyOf 2 p (rmD 1) s m args meth c E) (hr : meth.sig.returnType = none) (h : bb_X0_copyOf_59_50_0 M = some M') : G p l e (rmD 1) s m args below meth c E 2 0 0 (QR below args s E 0 0 none M') 0 [(0, .ref (eA E 59)), (1, .ref (eA E 50))] [] M := by
  unfold bb_X0_copyOf_59_50_0 at h
  refine G.aload_n C 0 dX0_copyOf_0 rfl rfl ?_
  refine G.aload_n C 1 dX0_copyOf_1 rfl rfl ?_
  refine G.getI (k := 0) C k_X0 (sc_50 hE) rfl (by decide) tg_368 dX0_copyOf_2 ?_
  obtain ⟨M_1, eM_1, h⟩ := ltv_ex h
  refine G.putI (k := 0) C k_X0 (sc_59 hE) rfl (by decide) tg_368 rfl rfl dX0_copyOf_5 eM_1 ?_
  refine G.aload_n C 0 dX0_copyOf_8 rfl rfl ?_
  refine G.aload_n C 1 dX0_copyOf_9 rfl rfl ?_
  refine G.getJ (k := 1) C k_X0 (sc_50 hE) rfl (by decide) tg_370 dX0_copyOf_10 ?_
  obtain ⟨M_2, eM_2, h⟩ := ltv_ex h
  refine G.putJ (k := 1) C k_X0 (sc_59 hE) rfl (by decide) tg_370 rfl rfl dX0_copyOf_13 eM_2 ?_
  refine G.aload_n C 0 dX0_copyOf_16 rfl rfl ?_
  refine G.aload_n C 1 dX0_copyOf_17 rfl rfl ?_
  refine G.getZ (k := 2) C k_X0 (sc_50 hE) rfl (by decide) tg_372 dX0_copyOf_18 ?_
  obtain ⟨hb_3, h⟩ := gd_ex h
  obtain ⟨M_4, eM_4, h⟩ := ltv_ex h
  refine G.putZ (k := 2) C k_X0 (sc_59 hE) rfl (by decide) tg_372 rfl rfl (isB_s hb_3) dX0_copyOf_21 eM_4 ?_
  refine G.aload_n C 0 dX0_copyOf_24 rfl rfl ?_
  refine G.aload_n C 1 dX0_copyOf_25 rfl rfl ?_
  refine G.getI (k := 5) C k_X0 (sc_50 hE) rfl (by decide) tg_376 dX0_copyOf_26 ?_
  obtain ⟨M_5, eM_5, h⟩ := ltv_ex h
  refine G.putI (k := 5) C k_X0 (sc_59 hE) rfl (by decide) tg_376 rfl rfl dX0_copyOf_29 eM_5 ?_
  refine G.aload_n C 0 dX0_copyOf_32 rfl rfl ?_
  refine G.aload_n C 1 dX0_copyOf_33 rfl rfl ?_
  refine G.getI (k := 7) C k_X0 (sc_50 hE) rfl (by decide) tg_381 dX0_copyOf_34 ?_
  obtain ⟨M_6, eM_6, h⟩ := ltv_ex h
  refine G.putI (k := 7) C k_X0 (sc_59 hE) rfl (by decide) tg_381 rfl rfl dX0_copyOf_37 eM_6 ?_
  refine G.aload_n C 1 dX0_copyOf_40 rfl rfl ?_
  refine G.getR (k := 3) C k_X0 (sc_50 hE) rfl (by decide) tg_374 dX0_copyOf_41 ?_
  refine G.iconst (v := (0 : Int32)) C dX0_copyOf_44 (by decide) ?_
  refine G.aload_n C 0 dX0_copyOf_45 rfl rfl ?_
  refine G.getR (k := 3) C k_X0 (sc_59 hE) rfl (by decide) tg_374 dX0_copyOf_46 ?_
  refine G.iconst (v := (0 : Int32)) C dX0_copyOf_49 (by decide) ?_
  refine G.bipush (v := (40 : Int32)) C dX0_copyOf_50 (by decide) ?_
  obtain ⟨M_7, eM_7, h⟩ := ltv_ex h
  refine G.copyI (rest := []) (n := 40) C (sc_51 hE) (sc_60 hE) tg_620 tg_622 tg_621 tg_112 (by decide) (by decide) (by decide) (by decide) ⟨Nat.le_of_ble_eq_true rfl, Nat.le_of_ble_eq_true rfl⟩ (Nat.le_of_ble_eq_true rfl) dX0_copyOf_52 eM_7 ?_
  refine G.aload_n C 1 dX0_copyOf_55 rfl rfl ?_
  refine G.getR (k := 4) C k_X0 (sc_50 hE) rfl (by decide) tg_375 dX0_copyOf_56 ?_
  refine G.iconst (v := (0 : Int32)) C dX0_copyOf_59 (by decide) ?_
  refine G.aload_n C 0 dX0_copyOf_60 rfl rfl ?_
  refine G.getR (k := 4) C k_X0 (sc_59 hE) rfl (by decide) tg_375 dX0_copyOf_61 ?_
  refine G.iconst (v := (0 : Int32)) C dX0_copyOf_64 (by decide) ?_
  refine G.bipush (v := (40 : Int32)) C dX0_copyOf_65 (by decide) ?_
  obtain ⟨M_8, eM_8, h⟩ := ltv_ex h
  refine G.copyJ (rest := []) (n := 40) C (sc_52 hE) (sc_61 hE) tg_620 tg_622 tg_621 tg_112 (by decide) (by decide) (by decide) (by decide) ⟨Nat.le_of_ble_eq_true rfl, Nat.le_of_ble_eq_true rfl⟩ (Nat.le_of_ble_eq_true rfl) dX0_copyOf_67 eM_8 ?_
  refine G.aload_n C 1 dX0_copyOf_70 rfl rfl ?_
  refine G.getR (k := 6) C k_X0 (sc_50 hE) rfl (by decide) tg_378 dX0_copyOf_71 ?_
  refine G.iconst (v := (0 : Int32)) C dX0_copyOf_74 (by decide) ?_
  refine G.aload_n C 0 dX0_copyOf_75 rfl rfl ?_
  refine G.getR (k := 6) C k_X0 (sc_59 hE) rfl (by decide) tg_378 dX0_copyOf_76 ?_
  refine G.iconst (v := (0 : Int32)) C dX0_copyOf_79 (by decide) ?_
  refine G.bipush (v := (8 : Int32)) C dX0_copyOf_80 (by decide) ?_
  obtain ⟨M_9, eM_9, h⟩ := ltv_ex h
  refine G.copyJ (rest := []) (n := 8) C (sc_53 hE) (sc_62 hE) tg_620 tg_622 tg_621 tg_112 (by decide) (by decide) (by decide) (by decide) ⟨Nat.le_of_ble_eq_true rfl, Nat.le_of_ble_eq_true rfl⟩ (Nat.le_of_ble_eq_true rfl) dX0_copyOf_82 eM_9 ?_
  cases h
  exact G.vret C hr dX0_copyOf_85
def f_X0_copyOf_59_50  (M : Mm) : Option Mm := bb_X0_copyOf_59_50_0 M
theorem s_X0_copyOf_59_50 {l : Launch} {E : Ev}  {M : Mm} {M' : Mm} (hE : Has shC (eH E)) (h : f_X0_copyOf_59_50 M = some M') : MetA l yX0_copyOf cX0_copyOf 2 none 1 E [.ref (eA E 59), .ref (eA E 50)] M none M' := by
  refine MetA.of (by decide +kernel) (Nat.le_of_ble_eq_true rfl) ?_
  intro p e s m below meth c C hr hnm
  exact G.sub [0, 1] rfl (gb_X0_copyOf_59_50_0 hE C hr  h)
def bb_X0_copyOf_50_63_0  (M : Mm) : Option Mm := ltv (wI M 50 0 (M.1 63 0)) fun M_1 => ltv (wJ M_1 50 1 (M_1.2 63 1)) fun M_2 => gd (isB (M_2.1 63 2)) (ltv (wI M_2 50 2 (M_2.1 63 2)) fun M_4 => ltv (wI M_4 50 5 (M_4.1 63 5)) fun M_5 => ltv (wI M_5 50 7 (M_5.1 63 7)) fun M_6 => ltv (cpI M_6 64 51 40) fun M_7 => ltv (cpJ M_7 65 52 40) fun M_8 => ltv (cpJ M_8 66 53 8) fun M_9 => some M_9)
set_option maxHeartbeats 4000000 in
set_option maxRecDepth 100000 in
theorem gb_X0_copyOf_50_63_0   {M : Mm} {M' : Mm} (hE : Has shC (eH E)) (C : Cx RX0 cX0_copyOf 2 p (rmD 1) s m args meth c E) (hr : meth.sig.returnType = none) (h : bb_X0_copyOf_50_63_0 M = some M') : G p l e (rmD 1) s m args below meth c E 2 0 0 (QR below args s E 0 0 none M') 0 [(0, .ref (eA E 50)), (1, .ref (eA E 63))] [] M := by
  unfold bb_X0_copyOf_50_63_0 at h
  refine G.aload_n C 0 dX0_copyOf_0 rfl rfl ?_
  refine G.aload_n C 1 dX0_copyOf_1 rfl rfl ?_
  refine G.getI (k := 0) C k_X0 (sc_63 hE) rfl (by decide) tg_368 dX0_copyOf_2 ?_
  obtain ⟨M_1, eM_1, h⟩ := ltv_ex h
  refine G.putI (k := 0) C k_X0 (sc_50 hE) rfl (by decide) tg_368 rfl rfl dX0_copyOf_5 eM_1 ?_
  refine G.aload_n C 0 dX0_copyOf_8 rfl rfl ?_
  refine G.aload_n C 1 dX0_copyOf_9 rfl rfl ?_
  refine G.getJ (k := 1) C k_X0 (sc_63 hE) rfl (by decide) tg_370 dX0_copyOf_10 ?_
  obtain ⟨M_2, eM_2, h⟩ := ltv_ex h
  refine G.putJ (k := 1) C k_X0 (sc_50 hE) rfl (by decide) tg_370 rfl rfl dX0_copyOf_13 eM_2 ?_
  refine G.aload_n C 0 dX0_copyOf_16 rfl rfl ?_
  refine G.aload_n C 1 dX0_copyOf_17 rfl rfl ?_
  refine G.getZ (k := 2) C k_X0 (sc_63 hE) rfl (by decide) tg_372 dX0_copyOf_18 ?_
  obtain ⟨hb_3, h⟩ := gd_ex h
  obtain ⟨M_4, eM_4, h⟩ := ltv_ex h
  refine G.putZ (k := 2) C k_X0 (sc_50 hE) rfl (by decide) tg_372 rfl rfl (isB_s hb_3) dX0_copyOf_21 eM_4 ?_
  refine G.aload_n C 0 dX0_copyOf_24 rfl rfl ?_
  refine G.aload_n C 1 dX0_copyOf_25 rfl rfl ?_
  refine G.getI (k := 5) C k_X0 (sc_63 hE) rfl (by decide) tg_376 dX0_copyOf_26 ?_
  obtain ⟨M_5, eM_5, h⟩ := ltv_ex h
  refine G.putI (k := 5) C k_X0 (sc_50 hE) rfl (by decide) tg_376 rfl rfl dX0_copyOf_29 eM_5 ?_
  refine G.aload_n C 0 dX0_copyOf_32 rfl rfl ?_
  refine G.aload_n C 1 dX0_copyOf_33 rfl rfl ?_
  refine G.getI (k := 7) C k_X0 (sc_63 hE) rfl (by decide) tg_381 dX0_copyOf_34 ?_
  obtain ⟨M_6, eM_6, h⟩ := ltv_ex h
  refine G.putI (k := 7) C k_X0 (sc_50 hE) rfl (by decide) tg_381 rfl rfl dX0_copyOf_37 eM_6 ?_
  refine G.aload_n C 1 dX0_copyOf_40 rfl rfl ?_
  refine G.getR (k := 3) C k_X0 (sc_63 hE) rfl (by decide) tg_374 dX0_copyOf_41 ?_
  refine G.iconst (v := (0 : Int32)) C dX0_copyOf_44 (by decide) ?_
  refine G.aload_n C 0 dX0_copyOf_45 rfl rfl ?_
  refine G.getR (k := 3) C k_X0 (sc_50 hE) rfl (by decide) tg_374 dX0_copyOf_46 ?_
  refine G.iconst (v := (0 : Int32)) C dX0_copyOf_49 (by decide) ?_
  refine G.bipush (v := (40 : Int32)) C dX0_copyOf_50 (by decide) ?_
  obtain ⟨M_7, eM_7, h⟩ := ltv_ex h
  refine G.copyI (rest := []) (n := 40) C (sc_64 hE) (sc_51 hE) tg_620 tg_622 tg_621 tg_112 (by decide) (by decide) (by decide) (by decide) ⟨Nat.le_of_ble_eq_true rfl, Nat.le_of_ble_eq_true rfl⟩ (Nat.le_of_ble_eq_true rfl) dX0_copyOf_52 eM_7 ?_
  refine G.aload_n C 1 dX0_copyOf_55 rfl rfl ?_
  refine G.getR (k := 4) C k_X0 (sc_63 hE) rfl (by decide) tg_375 dX0_copyOf_56 ?_
  refine G.iconst (v := (0 : Int32)) C dX0_copyOf_59 (by decide) ?_
  refine G.aload_n C 0 dX0_copyOf_60 rfl rfl ?_
  refine G.getR (k := 4) C k_X0 (sc_50 hE) rfl (by decide) tg_375 dX0_copyOf_61 ?_
  refine G.iconst (v := (0 : Int32)) C dX0_copyOf_64 (by decide) ?_
  refine G.bipush (v := (40 : Int32)) C dX0_copyOf_65 (by decide) ?_
  obtain ⟨M_8, eM_8, h⟩ := ltv_ex h
  refine G.copyJ (rest := []) (n := 40) C (sc_65 hE) (sc_52 hE) tg_620 tg_622 tg_621 tg_112 (by decide) (by decide) (by decide) (by decide) ⟨Nat.le_of_ble_eq_true rfl, Nat.le_of_ble_eq_true rfl⟩ (Nat.le_of_ble_eq_true rfl) dX0_copyOf_67 eM_8 ?_
  refine G.aload_n C 1 dX0_copyOf_70 rfl rfl ?_
  refine G.getR (k := 6) C k_X0 (sc_63 hE) rfl (by decide) tg_378 dX0_copyOf_71 ?_
  refine G.iconst (v := (0 : Int32)) C dX0_copyOf_74 (by decide) ?_
  refine G.aload_n C 0 dX0_copyOf_75 rfl rfl ?_
  refine G.getR (k := 6) C k_X0 (sc_50 hE) rfl (by decide) tg_378 dX0_copyOf_76 ?_
  refine G.iconst (v := (0 : Int32)) C dX0_copyOf_79 (by decide) ?_
  refine G.bipush (v := (8 : Int32)) C dX0_copyOf_80 (by decide) ?_
  obtain ⟨M_9, eM_9, h⟩ := ltv_ex h
  refine G.copyJ (rest := []) (n := 8) C (sc_66 hE) (sc_53 hE) tg_620 tg_622 tg_621 tg_112 (by decide) (by decide) (by decide) (by decide) ⟨Nat.le_of_ble_eq_true rfl, Nat.le_of_ble_eq_true rfl⟩ (Nat.le_of_ble_eq_true rfl) dX0_copyOf_82 eM_9 ?_
  cases h
  exact G.vret C hr dX0_copyOf_85
def f_X0_copyOf_50_63  (M : Mm) : Option Mm := bb_X0_copyOf_50_63_0 M
theorem s_X0_copyOf_50_63 {l : Launch} {E : Ev}  {M : Mm} {M' : Mm} (hE : Has shC (eH E)) (h : f_X0_copyOf_50_63 M = some M') : MetA l yX0_copyOf cX0_copyOf 2 none 1 E [.ref (eA E 50), .ref (eA E 63)] M none M' := by
  refine MetA.of (by decide +kernel) (Nat.le_of_ble_eq_true rfl) ?_
  intro p e s m below meth c C hr hnm
  exact G.sub [0, 1] rfl (gb_X0_copyOf_50_63_0 hE C hr  h)
def bb_X0_copyOf_63_50_0  (M : Mm) : Option Mm := ltv (wI M 63 0 (M.1 50 0)) fun M_1 => ltv (wJ M_1 63 1 (M_1.2 50 1)) fun M_2 => gd (isB (M_2.1 50 2)) (ltv (wI M_2 63 2 (M_2.1 50 2)) fun M_4 => ltv (wI M_4 63 5 (M_4.1 50 5)) fun M_5 => ltv (wI M_5 63 7 (M_5.1 50 7)) fun M_6 => ltv (cpI M_6 51 64 40) fun M_7 => ltv (cpJ M_7 52 65 40) fun M_8 => ltv (cpJ M_8 53 66 8) fun M_9 => some M_9)
set_option maxHeartbeats 4000000 in
set_option maxRecDepth 100000 in
theorem gb_X0_copyOf_63_50_0   {M : Mm} {M' : Mm} (hE : Has shC (eH E)) (C : Cx RX0 cX0_copyOf 2 p (rmD 1) s m args meth c E) (hr : meth.sig.returnType = none) (h : bb_X0_copyOf_63_50_0 M = some M') : G p l e (rmD 1) s m args below meth c E 2 0 0 (QR below args s E 0 0 none M') 0 [(0, .ref (eA E 63)), (1, .ref (eA E 50))] [] M := by
  unfold bb_X0_copyOf_63_50_0 at h
  refine G.aload_n C 0 dX0_copyOf_0 rfl rfl ?_
  refine G.aload_n C 1 dX0_copyOf_1 rfl rfl ?_
  refine G.getI (k := 0) C k_X0 (sc_50 hE) rfl (by decide) tg_368 dX0_copyOf_2 ?_
  obtain ⟨M_1, eM_1, h⟩ := ltv_ex h
  refine G.putI (k := 0) C k_X0 (sc_63 hE) rfl (by decide) tg_368 rfl rfl dX0_copyOf_5 eM_1 ?_
  refine G.aload_n C 0 dX0_copyOf_8 rfl rfl ?_
  refine G.aload_n C 1 dX0_copyOf_9 rfl rfl ?_
  refine G.getJ (k := 1) C k_X0 (sc_50 hE) rfl (by decide) tg_370 dX0_copyOf_10 ?_
  obtain ⟨M_2, eM_2, h⟩ := ltv_ex h
  refine G.putJ (k := 1) C k_X0 (sc_63 hE) rfl (by decide) tg_370 rfl rfl dX0_copyOf_13 eM_2 ?_
  refine G.aload_n C 0 dX0_copyOf_16 rfl rfl ?_
  refine G.aload_n C 1 dX0_copyOf_17 rfl rfl ?_
  refine G.getZ (k := 2) C k_X0 (sc_50 hE) rfl (by decide) tg_372 dX0_copyOf_18 ?_
  obtain ⟨hb_3, h⟩ := gd_ex h
  obtain ⟨M_4, eM_4, h⟩ := ltv_ex h
  refine G.putZ (k := 2) C k_X0 (sc_63 hE) rfl (by decide) tg_372 rfl rfl (isB_s hb_3) dX0_copyOf_21 eM_4 ?_
  refine G.aload_n C 0 dX0_copyOf_24 rfl rfl ?_
  refine G.aload_n C 1 dX0_copyOf_25 rfl rfl ?_
  refine G.getI (k := 5) C k_X0 (sc_50 hE) rfl (by decide) tg_376 dX0_copyOf_26 ?_
  obtain ⟨M_5, eM_5, h⟩ := ltv_ex h
  refine G.putI (k := 5) C k_X0 (sc_63 hE) rfl (by decide) tg_376 rfl rfl dX0_copyOf_29 eM_5 ?_
  refine G.aload_n C 0 dX0_copyOf_32 rfl rfl ?_
  refine G.aload_n C 1 dX0_copyOf_33 rfl rfl ?_
  refine G.getI (k := 7) C k_X0 (sc_50 hE) rfl (by decide) tg_381 dX0_copyOf_34 ?_
  obtain ⟨M_6, eM_6, h⟩ := ltv_ex h
  refine G.putI (k := 7) C k_X0 (sc_63 hE) rfl (by decide) tg_381 rfl rfl dX0_copyOf_37 eM_6 ?_
  refine G.aload_n C 1 dX0_copyOf_40 rfl rfl ?_
  refine G.getR (k := 3) C k_X0 (sc_50 hE) rfl (by decide) tg_374 dX0_copyOf_41 ?_
  refine G.iconst (v := (0 : Int32)) C dX0_copyOf_44 (by decide) ?_
  refine G.aload_n C 0 dX0_copyOf_45 rfl rfl ?_
  refine G.getR (k := 3) C k_X0 (sc_63 hE) rfl (by decide) tg_374 dX0_copyOf_46 ?_
  refine G.iconst (v := (0 : Int32)) C dX0_copyOf_49 (by decide) ?_
  refine G.bipush (v := (40 : Int32)) C dX0_copyOf_50 (by decide) ?_
  obtain ⟨M_7, eM_7, h⟩ := ltv_ex h
  refine G.copyI (rest := []) (n := 40) C (sc_51 hE) (sc_64 hE) tg_620 tg_622 tg_621 tg_112 (by decide) (by decide) (by decide) (by decide) ⟨Nat.le_of_ble_eq_true rfl, Nat.le_of_ble_eq_true rfl⟩ (Nat.le_of_ble_eq_true rfl) dX0_copyOf_52 eM_7 ?_
  refine G.aload_n C 1 dX0_copyOf_55 rfl rfl ?_
  refine G.getR (k := 4) C k_X0 (sc_50 hE) rfl (by decide) tg_375 dX0_copyOf_56 ?_
  refine G.iconst (v := (0 : Int32)) C dX0_copyOf_59 (by decide) ?_
  refine G.aload_n C 0 dX0_copyOf_60 rfl rfl ?_
  refine G.getR (k := 4) C k_X0 (sc_63 hE) rfl (by decide) tg_375 dX0_copyOf_61 ?_
  refine G.iconst (v := (0 : Int32)) C dX0_copyOf_64 (by decide) ?_
  refine G.bipush (v := (40 : Int32)) C dX0_copyOf_65 (by decide) ?_
  obtain ⟨M_8, eM_8, h⟩ := ltv_ex h
  refine G.copyJ (rest := []) (n := 40) C (sc_52 hE) (sc_65 hE) tg_620 tg_622 tg_621 tg_112 (by decide) (by decide) (by decide) (by decide) ⟨Nat.le_of_ble_eq_true rfl, Nat.le_of_ble_eq_true rfl⟩ (Nat.le_of_ble_eq_true rfl) dX0_copyOf_67 eM_8 ?_
  refine G.aload_n C 1 dX0_copyOf_70 rfl rfl ?_
  refine G.getR (k := 6) C k_X0 (sc_50 hE) rfl (by decide) tg_378 dX0_copyOf_71 ?_
  refine G.iconst (v := (0 : Int32)) C dX0_copyOf_74 (by decide) ?_
  refine G.aload_n C 0 dX0_copyOf_75 rfl rfl ?_
  refine G.getR (k := 6) C k_X0 (sc_63 hE) rfl (by decide) tg_378 dX0_copyOf_76 ?_
  refine G.iconst (v := (0 : Int32)) C dX0_copyOf_79 (by decide) ?_
  refine G.bipush (v := (8 : Int32)) C dX0_copyOf_80 (by decide) ?_
  obtain ⟨M_9, eM_9, h⟩ := ltv_ex h
  refine G.copyJ (rest := []) (n := 8) C (sc_53 hE) (sc_66 hE) tg_620 tg_622 tg_621 tg_112 (by decide) (by decide) (by decide) (by decide) ⟨Nat.le_of_ble_eq_true rfl, Nat.le_of_ble_eq_true rfl⟩ (Nat.le_of_ble_eq_true rfl) dX0_copyOf_82 eM_9 ?_
  cases h
  exact G.vret C hr dX0_copyOf_85
def f_X0_copyOf_63_50  (M : Mm) : Option Mm := bb_X0_copyOf_63_50_0 M
theorem s_X0_copyOf_63_50 {l : Launch} {E : Ev}  {M : Mm} {M' : Mm} (hE : Has shC (eH E)) (h : f_X0_copyOf_63_50 M = some M') : MetA l yX0_copyOf cX0_copyOf 2 none 1 E [.ref (eA E 63), .ref (eA E 50)] M none M' := by
  refine MetA.of (by decide +kernel) (Nat.le_of_ble_eq_true rfl) ?_
  intro p e s m below meth c C hr hnm
  exact G.sub [0, 1] rfl (gb_X0_copyOf_63_50_0 hE C hr  h)
end
