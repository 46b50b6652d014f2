section
variable {p : Program} {l : Launch} {e : Env} {s : State} {m : MethodId} {args : Array Value} {below : List Frame} {meth : Method} {c : Code} {E : Ev}
def bb_X9_feed_0_0 (x1 : Int32) (x2 : Int32) (x3 : Int32) (x4 : Int32) (x5 : Int32) (M : Mm) : Option (Int32 × Mm) := if ((M.1 1 2) + (20 : Int32)) ≤ (500 : Int32) then (bd (f_X8_putNumber_1 x1 M) fun M_2 => bd (f_X8_putNumber_1 x2 M_2) fun M_4 => bd (f_X8_putNumber_1 x3 M_4) fun M_6 => bd (f_X8_putNumber_1 x4 M_6) fun M_8 => bd (f_X8_putNumber_1 x5 M_8) fun M_10 => some (M_10.1 1 2, M_10)) else (some ((-1 : Int32), M))
set_option maxHeartbeats 4000000 in
set_option maxRecDepth 100000 in
theorem gb_X9_feed_0_0  {x1 : Int32} {x2 : Int32} {x3 : Int32} {x4 : Int32} {x5 : Int32} {M : Mm} {v : Int32} {M' : Mm} (hE : Has shC (eH E)) (C : Cx RX9 cX9_feed 6 p (rmD 2) s m args meth c E) (hr : meth.sig.returnType = (some .int)) (h : bb_X9_feed_0_0 x1 x2 x3 x4 x5 M = some (v, M')) : G p l e (rmD 2) s m args below meth c E 6 0 0 (QR below args s E 0 0 (some (.int v)) M') 0 [(0, .ref (eA E 0)), (1, .int x1), (2, .int x2), (3, .int x3), (4, .int x4), (5, .int x5)] [] M := by
  unfold bb_X9_feed_0_0 at h
  refine G.aload_n C 0 dX9_feed_0 rfl rfl ?_
  refine G.getR (k := 0) C k_X9 (sc_0 hE) rfl (by decide) tg_479 dX9_feed_1 ?_
  refine G.getIN (k := 2) C k_X8 (sc_1 hE) rfl (by decide) tw_198 dX9_feed_4 ?_
  refine G.bipush (v := (20 : Int32)) C dX9_feed_7 (by decide) ?_
  refine G.iadd C dX9_feed_9 ?_
  refine G.sipush (v := (500 : Int32)) C dX9_feed_10 (by decide) ?_
  refine G.icmp_le (tgt := 18) C dX9_feed_13 (by decide) (fun hc => ?_) (fun hc => ?_)
  · have h := it_t h hc
    refine G.aload_n C 0 dX9_feed_18 rfl rfl ?_
    refine G.getR (k := 0) C k_X9 (sc_0 hE) rfl (by decide) tg_479 dX9_feed_19 ?_
    refine G.iload_n C 1 dX9_feed_22 rfl rfl ?_
    obtain ⟨M_2, hv_1, h⟩ := bd_ex h
    refine G.callV (rest := []) C (s_X8_putNumber_1 hE  hv_1) ⟨tg_520, tg_91, ok_X8_putNumber, Nat.le_of_ble_eq_true rfl, Nat.le_of_ble_eq_true rfl⟩ tg_517 tg_518 tg_519 (sc_1 hE) rfl rfl (Nat.le_of_ble_eq_true rfl) dX9_feed_23 ⟨Nat.le_refl 0, Nat.le_refl 0⟩ ?_
    refine G.aload_n C 0 dX9_feed_26 rfl rfl ?_
    refine G.getR (k := 0) C k_X9 (sc_0 hE) rfl (by decide) tg_479 dX9_feed_27 ?_
    refine G.iload_n C 2 dX9_feed_30 rfl rfl ?_
    obtain ⟨M_4, hv_3, h⟩ := bd_ex h
    refine G.callV (rest := []) C (s_X8_putNumber_1 hE  hv_3) ⟨tg_520, tg_91, ok_X8_putNumber, Nat.le_of_ble_eq_true rfl, Nat.le_of_ble_eq_true rfl⟩ tg_517 tg_518 tg_519 (sc_1 hE) rfl rfl (Nat.le_of_ble_eq_true rfl) dX9_feed_31 ⟨Nat.le_refl 0, Nat.le_refl 0⟩ ?_
    refine G.aload_n C 0 dX9_feed_34 rfl rfl ?_
    refine G.getR (k := 0) C k_X9 (sc_0 hE) rfl (by decide) tg_479 dX9_feed_35 ?_
    refine G.iload_n C 3 dX9_feed_38 rfl rfl ?_
    obtain ⟨M_6, hv_5, h⟩ := bd_ex h
    refine G.callV (rest := []) C (s_X8_putNumber_1 hE  hv_5) ⟨tg_520, tg_91, ok_X8_putNumber, Nat.le_of_ble_eq_true rfl, Nat.le_of_ble_eq_true rfl⟩ tg_517 tg_518 tg_519 (sc_1 hE) rfl rfl (Nat.le_of_ble_eq_true rfl) dX9_feed_39 ⟨Nat.le_refl 0, Nat.le_refl 0⟩ ?_
    refine G.aload_n C 0 dX9_feed_42 rfl rfl ?_
    refine G.getR (k := 0) C k_X9 (sc_0 hE) rfl (by decide) tg_479 dX9_feed_43 ?_
    refine G.iload C 4 dX9_feed_46 rfl ?_
    obtain ⟨M_8, hv_7, h⟩ := bd_ex h
    refine G.callV (rest := []) C (s_X8_putNumber_1 hE  hv_7) ⟨tg_520, tg_91, ok_X8_putNumber, Nat.le_of_ble_eq_true rfl, Nat.le_of_ble_eq_true rfl⟩ tg_517 tg_518 tg_519 (sc_1 hE) rfl rfl (Nat.le_of_ble_eq_true rfl) dX9_feed_48 ⟨Nat.le_refl 0, Nat.le_refl 0⟩ ?_
    refine G.aload_n C 0 dX9_feed_51 rfl rfl ?_
    refine G.getR (k := 0) C k_X9 (sc_0 hE) rfl (by decide) tg_479 dX9_feed_52 ?_
    refine G.iload C 5 dX9_feed_55 rfl ?_
    obtain ⟨M_10, hv_9, h⟩ := bd_ex h
    refine G.callV (rest := []) C (s_X8_putNumber_1 hE  hv_9) ⟨tg_520, tg_91, ok_X8_putNumber, Nat.le_of_ble_eq_true rfl, Nat.le_of_ble_eq_true rfl⟩ tg_517 tg_518 tg_519 (sc_1 hE) rfl rfl (Nat.le_of_ble_eq_true rfl) dX9_feed_57 ⟨Nat.le_refl 0, Nat.le_refl 0⟩ ?_
    refine G.aload_n C 0 dX9_feed_60 rfl rfl ?_
    refine G.getR (k := 0) C k_X9 (sc_0 hE) rfl (by decide) tg_479 dX9_feed_61 ?_
    refine G.getIN (k := 2) C k_X8 (sc_1 hE) rfl (by decide) tw_198 dX9_feed_64 ?_
    cases h
    exact G.iret C hr dX9_feed_67
  · have h := it_f h hc
    refine G.iconst (v := (-1 : Int32)) C dX9_feed_16 (by decide) ?_
    cases h
    exact G.iret C hr dX9_feed_17
def f_X9_feed_0 (x1 : Int32) (x2 : Int32) (x3 : Int32) (x4 : Int32) (x5 : Int32) (M : Mm) : Option (Int32 × Mm) := bb_X9_feed_0_0 x1 x2 x3 x4 x5 M
theorem s_X9_feed_0 {l : Launch} {E : Ev} {x1 : Int32} {x2 : Int32} {x3 : Int32} {x4 : Int32} {x5 : Int32} {M : Mm} {v : Int32} {M' : Mm} (hE : Has shC (eH E)) (h : f_X9_feed_0 x1 x2 x3 x4 x5 M = some (v, M')) : MetA l yX9_feed cX9_feed 6 (some .int) 2 E [.ref (eA E 0), .int x1, .int x2, .int x3, .int x4, .int x5] M (some (.int v)) M' := by
  refine MetA.of (by decide +kernel) (Nat.le_of_ble_eq_true rfl) ?_
  intro p e s m below meth c C hr hnm
  exact G.sub [0, 1, 2, 3, 4, 5] rfl (gb_X9_feed_0_0 hE C hr  h)
def bb_X9_fault_0_0  (M : Mm) : Option Int32 := some (M.1 0 2)
set_option maxHeartbeats 4000000 in
set_option maxRecDepth 100000 in
theorem gb_X9_fault_0_0   {M : Mm} {v : Int32} (hE : Has shC (eH E)) (C : Cx RX9 cX9_fault 1 p (rmD 1) s m args meth c E) (hr : meth.sig.returnType = (some .int)) (h : bb_X9_fault_0_0 M = some v) : G p l e (rmD 1) s m args below meth c E 1 0 0 (QR below args s E 0 0 (some (.int v)) M) 0 [(0, .ref (eA E 0))] [] M := by
  unfold bb_X9_fault_0_0 at h
  refine G.aload_n C 0 dX9_fault_0 rfl rfl ?_
  refine G.getI (k := 2) C k_X9 (sc_0 hE) rfl (by decide) tg_481 dX9_fault_1 ?_
  cases h
  exact G.iret C hr dX9_fault_4
def f_X9_fault_0  (M : Mm) : Option Int32 := bb_X9_fault_0_0 M
theorem s_X9_fault_0 {l : Launch} {E : Ev}  {M : Mm} {v : Int32} (hE : Has shC (eH E)) (h : f_X9_fault_0 M = some v) : MetA l yX9_fault cX9_fault 1 (some .int) 1 E [.ref (eA E 0)] M (some (.int v)) M := by
  refine MetA.of (by decide +kernel) (Nat.le_of_ble_eq_true rfl) ?_
  intro p e s m below meth c C hr hnm
  exact G.sub [0] rfl (gb_X9_fault_0_0 hE C hr  h)
def bb_X9_shape_0_0 (x1 : Int64) : Option Int64 := bd (f_X4_toCorner x1) fun v_2 => some v_2
set_option maxHeartbeats 4000000 in
set_option maxRecDepth 100000 in
theorem gb_X9_shape_0_0 {M : Mm}  {x1 : Int64} {v : Int64} (hE : Has shC (eH E)) (C : Cx RX9 cX9_shape 3 p (rmD 2) s m args meth c E) (hr : meth.sig.returnType = (some .long)) (h : bb_X9_shape_0_0 x1 = some v) : G p l e (rmD 2) s m args below meth c E 3 0 0 (QR below args s E 0 0 (some (.long v)) M) 0 [(0, .ref (eA E 0)), (1, .long x1)] [] M := by
  unfold bb_X9_shape_0_0 at h
  refine G.lload_n C 1 dX9_shape_0 rfl rfl ?_
  obtain ⟨v_2, hv_1, h⟩ := bd_ex h
  refine G.callS (rest := []) C (s_X4_toCorner  hv_1) ⟨tg_434, tg_101, ok_X4_toCorner, Nat.le_of_ble_eq_true rfl, Nat.le_of_ble_eq_true rfl⟩ tg_529 tg_433 rfl (Nat.le_of_ble_eq_true rfl) dX9_shape_1 ⟨Nat.le_refl 0, Nat.le_refl 0⟩ ?_
  cases h
  exact G.lret C hr dX9_shape_4
def f_X9_shape_0 (x1 : Int64) : Option Int64 := bb_X9_shape_0_0 x1
theorem s_X9_shape_0 {l : Launch} {E : Ev} {x1 : Int64} {M : Mm} {v : Int64} (hE : Has shC (eH E)) (h : f_X9_shape_0 x1 = some v) : MetA l yX9_shape cX9_shape 3 (some .long) 2 E [.ref (eA E 0), .long x1] M (some (.long v)) M := by
  refine MetA.of (by decide +kernel) (Nat.le_of_ble_eq_true rfl) ?_
  intro p e s m below meth c C hr hnm
  exact G.sub [0, 1] rfl (gb_X9_shape_0_0 hE C hr  h)
def bb_X9_hasPunch_0_0  (M : Mm) : Option Int32 := if (M.1 50 0) < 0 then (some (0 : Int32)) else (if (M.1 11 7) ≤ (M.1 50 0) then (some (0 : Int32)) else (some (1 : Int32)))
set_option maxHeartbeats 4000000 in
set_option maxRecDepth 100000 in
theorem gb_X9_hasPunch_0_0   {M : Mm} {v : Int32} (hE : Has shC (eH E)) (C : Cx RX9 cX9_hasPunch 1 p (rmD 1) s m args meth c E) (hr : meth.sig.returnType = (some .boolean)) (h : bb_X9_hasPunch_0_0 M = some v) : G p l e (rmD 1) s m args below meth c E 1 0 0 (QR below args s E 0 0 (some (.int v)) M) 0 [(0, .ref (eA E 0))] [] M := by
  unfold bb_X9_hasPunch_0_0 at h
  refine G.aload_n C 0 dX9_hasPunch_0 rfl rfl ?_
  refine G.getR (k := 8) C k_X9 (sc_0 hE) rfl (by decide) tg_487 dX9_hasPunch_1 ?_
  refine G.getIN (k := 0) C k_X0 (sc_50 hE) rfl (by decide) tw_369 dX9_hasPunch_4 ?_
  refine G.if_lt (tgt := 31) C dX9_hasPunch_7 (by decide) (fun hc => ?_) (fun hc => ?_)
  · have h := it_t h hc
    refine G.iconst (v := (0 : Int32)) C dX9_hasPunch_31 (by decide) ?_
    cases h
    exact G.zret C hr rfl dX9_hasPunch_32
  · have h := it_f h hc
    refine G.aload_n C 0 dX9_hasPunch_10 rfl rfl ?_
    refine G.getR (k := 8) C k_X9 (sc_0 hE) rfl (by decide) tg_487 dX9_hasPunch_11 ?_
    refine G.getIN (k := 0) C k_X0 (sc_50 hE) rfl (by decide) tw_369 dX9_hasPunch_14 ?_
    refine G.aload_n C 0 dX9_hasPunch_17 rfl rfl ?_
    refine G.getR (k := 1) C k_X9 (sc_0 hE) rfl (by decide) tg_480 dX9_hasPunch_18 ?_
    refine G.getIN (k := 7) C k_X7 (sc_11 hE) rfl (by decide) tw_159 dX9_hasPunch_21 ?_
    refine G.icmp_ge (tgt := 31) C dX9_hasPunch_24 (by decide) (fun hc => ?_) (fun hc => ?_)
    · have h := it_t h hc
      refine G.iconst (v := (0 : Int32)) C dX9_hasPunch_31 (by decide) ?_
      cases h
      exact G.zret C hr rfl dX9_hasPunch_32
    · have h := it_f h hc
      refine G.iconst (v := (1 : Int32)) C dX9_hasPunch_27 (by decide) ?_
      refine G.goto (tgt := 32) C dX9_hasPunch_28 (by decide) ?_
      cases h
      exact G.zret C hr rfl dX9_hasPunch_32
def f_X9_hasPunch_0  (M : Mm) : Option Int32 := bb_X9_hasPunch_0_0 M
theorem s_X9_hasPunch_0 {l : Launch} {E : Ev}  {M : Mm} {v : Int32} (hE : Has shC (eH E)) (h : f_X9_hasPunch_0 M = some v) : MetA l yX9_hasPunch cX9_hasPunch 1 (some .boolean) 1 E [.ref (eA E 0)] M (some (.int v)) M := by
  refine MetA.of (by decide +kernel) (Nat.le_of_ble_eq_true rfl) ?_
  intro p e s m below meth c C hr hnm
  exact G.sub [0] rfl (gb_X9_hasPunch_0_0 hE C hr  h)
def bb_X9_steel_0_0  (M : Mm) : Option Int64 := bd (f_X9_hasPunch_0 M) fun v_2 => if v_2 = 0 then (some (0 : Int64)) else (some ((M.2 50 1) ^^^ (-1 : Int64)))
set_option maxHeartbeats 4000000 in
set_option maxRecDepth 100000 in
theorem gb_X9_steel_0_0   {M : Mm} {v : Int64} (hE : Has shC (eH E)) (C : Cx RX9 cX9_steel 1 p (rmD 2) s m args meth c E) (hr : meth.sig.returnType = (some .long)) (h : bb_X9_steel_0_0 M = some v) : G p l e (rmD 2) s m args below meth c E 1 0 0 (QR below args s E 0 0 (some (.long v)) M) 0 [(0, .ref (eA E 0))] [] M := by
  unfold bb_X9_steel_0_0 at h
  refine G.aload_n C 0 dX9_steel_0 rfl rfl ?_
  obtain ⟨v_2, hv_1, h⟩ := bd_ex h
  refine G.callV (rest := []) C (s_X9_hasPunch_0 hE  hv_1) ⟨tg_537, tg_90, ok_X9_hasPunch, Nat.le_of_ble_eq_true rfl, Nat.le_of_ble_eq_true rfl⟩ tg_534 tg_536 tg_0 (sc_0 hE) rfl rfl (Nat.le_of_ble_eq_true rfl) dX9_steel_1 ⟨Nat.le_refl 0, Nat.le_refl 0⟩ ?_
  refine G.if_eq (tgt := 21) C dX9_steel_4 (by decide) (fun hc => ?_) (fun hc => ?_)
  · have h := it_t h hc
    refine G.lconst (v := (0 : Int64)) C dX9_steel_21 (by decide) ?_
    cases h
    exact G.lret C hr dX9_steel_22
  · have h := it_f h hc
    refine G.aload_n C 0 dX9_steel_7 rfl rfl ?_
    refine G.getR (k := 8) C k_X9 (sc_0 hE) rfl (by decide) tg_487 dX9_steel_8 ?_
    refine G.getJN (k := 1) C k_X0 (sc_50 hE) rfl (by decide) tw_371 dX9_steel_11 ?_
    refine G.ldc2 C tg_538 dX9_steel_14 ?_
    refine G.lxor C dX9_steel_17 ?_
    refine G.goto (tgt := 22) C dX9_steel_18 (by decide) ?_
    cases h
    exact G.lret C hr dX9_steel_22
def f_X9_steel_0  (M : Mm) : Option Int64 := bb_X9_steel_0_0 M
theorem s_X9_steel_0 {l : Launch} {E : Ev}  {M : Mm} {v : Int64} (hE : Has shC (eH E)) (h : f_X9_steel_0 M = some v) : MetA l yX9_steel cX9_steel 1 (some .long) 2 E [.ref (eA E 0)] M (some (.long v)) M := by
  refine MetA.of (by decide +kernel) (Nat.le_of_ble_eq_true rfl) ?_
  intro p e s m below meth c C hr hnm
  exact G.sub [0] rfl (gb_X9_steel_0_0 hE C hr  h)
def bb_X9_clear_0_0  (M : Mm) : Option (Int32 × Mm) := ltv (M.1 50 5) fun x1_1 => ltv (wI M 50 5 (0 : Int32)) fun M_2 => some (x1_1, M_2)
set_option maxHeartbeats 4000000 in
set_option maxRecDepth 100000 in
theorem gb_X9_clear_0_0   {M : Mm} {v : Int32} {M' : Mm} (hE : Has shC (eH E)) (C : Cx RX9 cX9_clear 2 p (rmD 1) s m args meth c E) (hr : meth.sig.returnType = (some .int)) (h : bb_X9_clear_0_0 M = some (v, M')) : G p l e (rmD 1) s m args below meth c E 2 0 0 (QR below args s E 0 0 (some (.int v)) M') 0 [(0, .ref (eA E 0))] [] M := by
  unfold bb_X9_clear_0_0 at h
  refine G.aload_n C 0 dX9_clear_0 rfl rfl ?_
  refine G.getR (k := 8) C k_X9 (sc_0 hE) rfl (by decide) tg_487 dX9_clear_1 ?_
  refine G.getIN (k := 5) C k_X0 (sc_50 hE) rfl (by decide) tw_377 dX9_clear_4 ?_
  obtain ⟨x1_1, ex1_1, h⟩ := ltv_ex h
  refine G.istore_n (L' := [(1, .int x1_1), (0, .ref (eA E 0))]) C dX9_clear_7 rfl ex1_1 (by decide) rfl ?_
  refine G.aload_n C 1 dX9_clear_8 rfl rfl ?_
  refine G.getR (k := 8) C k_X9 (sc_0 hE) rfl (by decide) tg_487 dX9_clear_9 ?_
  refine G.iconst (v := (0 : Int32)) C dX9_clear_12 (by decide) ?_
  obtain ⟨M_2, eM_2, h⟩ := ltv_ex h
  refine G.putIN (k := 5) C k_X0 (sc_50 hE) rfl (by decide) tw_377 rfl rfl dX9_clear_13 eM_2 ?_
  refine G.iload_n C 0 dX9_clear_16 rfl rfl ?_
  cases h
  exact G.iret C hr dX9_clear_17
def f_X9_clear_0  (M : Mm) : Option (Int32 × Mm) := bb_X9_clear_0_0 M
theorem s_X9_clear_0 {l : Launch} {E : Ev}  {M : Mm} {v : Int32} {M' : Mm} (hE : Has shC (eH E)) (h : f_X9_clear_0 M = some (v, M')) : MetA l yX9_clear cX9_clear 2 (some .int) 1 E [.ref (eA E 0)] M (some (.int v)) M' := by
  refine MetA.of (by decide +kernel) (Nat.le_of_ble_eq_true rfl) ?_
  intro p e s m below meth c C hr hnm
  exact G.sub [0] rfl (gb_X9_clear_0_0 hE C hr  h)
def bb_X9_can_0_0  (M : Mm) : Option Int32 := bd (f_X9_hasPunch_0 M) fun v_2 => if v_2 = 0 then (some (0 : Int32)) else (bd (f_X0_canBeDone_50_11 M) fun v_4 => if v_4 = 0 then (some (0 : Int32)) else (some (1 : Int32)))
set_option maxHeartbeats 4000000 in
set_option maxRecDepth 100000 in
theorem gb_X9_can_0_0   {M : Mm} {v : Int32} (hE : Has shC (eH E)) (C : Cx RX9 cX9_can 1 p (rmD 5) s m args meth c E) (hr : meth.sig.returnType = (some .boolean)) (h : bb_X9_can_0_0 M = some v) : G p l e (rmD 5) s m args below meth c E 1 0 0 (QR below args s E 0 0 (some (.int v)) M) 0 [(0, .ref (eA E 0))] [] M := by
  unfold bb_X9_can_0_0 at h
  refine G.aload_n C 0 dX9_can_0 rfl rfl ?_
  obtain ⟨v_2, hv_1, h⟩ := bd_ex h
  refine G.callV (rest := []) C (s_X9_hasPunch_0 hE  hv_1) ⟨tg_537, tg_90, ok_X9_hasPunch, Nat.le_of_ble_eq_true rfl, Nat.le_of_ble_eq_true rfl⟩ tg_534 tg_536 tg_0 (sc_0 hE) rfl rfl (Nat.le_of_ble_eq_true rfl) dX9_can_1 ⟨Nat.le_refl 0, Nat.le_refl 0⟩ ?_
  refine G.if_eq (tgt := 25) C dX9_can_4 (by decide) (fun hc => ?_) (fun hc => ?_)
  · have h := it_t h hc
    refine G.iconst (v := (0 : Int32)) C dX9_can_25 (by decide) ?_
    cases h
    exact G.zret C hr rfl dX9_can_26
  · have h := it_f h hc
    refine G.aload_n C 0 dX9_can_7 rfl rfl ?_
    refine G.getR (k := 8) C k_X9 (sc_0 hE) rfl (by decide) tg_487 dX9_can_8 ?_
    refine G.aload_n C 0 dX9_can_11 rfl rfl ?_
    refine G.getR (k := 1) C k_X9 (sc_0 hE) rfl (by decide) tg_480 dX9_can_12 ?_
    obtain ⟨v_4, hv_3, h⟩ := bd_ex h
    refine G.callV (rest := []) C (s_X0_canBeDone_50_11 hE  hv_3) ⟨tg_550, tg_98, ok_X0_canBeDone, Nat.le_of_ble_eq_true rfl, Nat.le_of_ble_eq_true rfl⟩ tg_547 tg_548 tg_549 (sc_50 hE) rfl rfl (Nat.le_of_ble_eq_true rfl) dX9_can_15 ⟨Nat.le_refl 0, Nat.le_refl 0⟩ ?_
    refine G.if_eq (tgt := 25) C dX9_can_18 (by decide) (fun hc => ?_) (fun hc => ?_)
    · have h := it_t h hc
      refine G.iconst (v := (0 : Int32)) C dX9_can_25 (by decide) ?_
      cases h
      exact G.zret C hr rfl dX9_can_26
    · have h := it_f h hc
      refine G.iconst (v := (1 : Int32)) C dX9_can_21 (by decide) ?_
      refine G.goto (tgt := 26) C dX9_can_22 (by decide) ?_
      cases h
      exact G.zret C hr rfl dX9_can_26
def f_X9_can_0  (M : Mm) : Option Int32 := bb_X9_can_0_0 M
theorem s_X9_can_0 {l : Launch} {E : Ev}  {M : Mm} {v : Int32} (hE : Has shC (eH E)) (h : f_X9_can_0 M = some v) : MetA l yX9_can cX9_can 1 (some .boolean) 5 E [.ref (eA E 0)] M (some (.int v)) M := by
  refine MetA.of (by decide +kernel) (Nat.le_of_ble_eq_true rfl) ?_
  intro p e s m below meth c C hr hnm
  exact G.sub [0] rfl (gb_X9_can_0_0 hE C hr  h)
def bb_X9_left_0_0  (M : Mm) : Option (Int32 × Mm) := bd (f_X9_hasPunch_0 M) fun v_2 => if v_2 = 0 then (some ((-1 : Int32), M)) else (bd (f_X0_canBeDone_50_11 M) fun v_4 => if v_4 = 0 then (some ((-1 : Int32), M)) else (gd (inb (M.1 50 0) 10) (ltv (M.2 12 (ix (M.1 50 0))) fun x1_6 => bd (f_X3_lay_19 x1_6 M) fun M_8 => bd (f_X0_hollowsLeft_50_11 M_8) fun v_10 => bd (f_X4_reached x1_6) fun v_12 => bd2 (f_X3_fewest_19 (v_12 &&& ((M_8.2 50 1) ^^^ (-1 : Int64))) M_8) fun v_15 M_14 => some (v_10 + v_15, M_14))))
set_option maxHeartbeats 4000000 in
set_option maxRecDepth 100000 in
theorem gb_X9_left_0_0   {M : Mm} {v : Int32} {M' : Mm} (hE : Has shC (eH E)) (C : Cx RX9 cX9_left 3 p (rmD 24) s m args meth c E) (hr : meth.sig.returnType = (some .int)) (h : bb_X9_left_0_0 M = some (v, M')) : G p l e (rmD 24) s m args below meth c E 3 0 0 (QR below args s E 0 0 (some (.int v)) M') 0 [(0, .ref (eA E 0))] [] M := by
  unfold bb_X9_left_0_0 at h
  refine G.aload_n C 0 dX9_left_0 rfl rfl ?_
  obtain ⟨v_2, hv_1, h⟩ := bd_ex h
  refine G.callV (rest := []) C (s_X9_hasPunch_0 hE  hv_1) ⟨tg_537, tg_90, ok_X9_hasPunch, Nat.le_of_ble_eq_true rfl, Nat.le_of_ble_eq_true rfl⟩ tg_534 tg_536 tg_0 (sc_0 hE) rfl rfl (Nat.le_of_ble_eq_true rfl) dX9_left_1 ⟨Nat.le_refl 0, Nat.le_refl 0⟩ ?_
  refine G.if_eq (tgt := 21) C dX9_left_4 (by decide) (fun hc => ?_) (fun hc => ?_)
  · have h := it_t h hc
    refine G.iconst (v := (-1 : Int32)) C dX9_left_21 (by decide) ?_
    cases h
    exact G.iret C hr dX9_left_22
  · have h := it_f h hc
    refine G.aload_n C 0 dX9_left_7 rfl rfl ?_
    refine G.getR (k := 8) C k_X9 (sc_0 hE) rfl (by decide) tg_487 dX9_left_8 ?_
    refine G.aload_n C 0 dX9_left_11 rfl rfl ?_
    refine G.getR (k := 1) C k_X9 (sc_0 hE) rfl (by decide) tg_480 dX9_left_12 ?_
    obtain ⟨v_4, hv_3, h⟩ := bd_ex h
    refine G.callV (rest := []) C (s_X0_canBeDone_50_11 hE  hv_3) ⟨tg_550, tg_98, ok_X0_canBeDone, Nat.le_of_ble_eq_true rfl, Nat.le_of_ble_eq_true rfl⟩ tg_547 tg_548 tg_549 (sc_50 hE) rfl rfl (Nat.le_of_ble_eq_true rfl) dX9_left_15 ⟨Nat.le_refl 0, Nat.le_refl 0⟩ ?_
    refine G.if_ne (tgt := 23) C dX9_left_18 (by decide) (fun hc => ?_) (fun hc => ?_)
    · have h := it_f h hc
      refine G.aload_n C 0 dX9_left_23 rfl rfl ?_
      refine G.getR (k := 1) C k_X9 (sc_0 hE) rfl (by decide) tg_480 dX9_left_24 ?_
      refine G.getRN (k := 0) C k_X7 (sc_11 hE) rfl (by decide) tw_137 dX9_left_27 ?_
      refine G.aload_n C 0 dX9_left_30 rfl rfl ?_
      refine G.getR (k := 8) C k_X9 (sc_0 hE) rfl (by decide) tg_487 dX9_left_31 ?_
      refine G.getIN (k := 0) C k_X0 (sc_50 hE) rfl (by decide) tw_369 dX9_left_34 ?_
      obtain ⟨hg_5, h⟩ := gd_ex h
      refine G.aJ (j := ix (M.1 50 0)) C (sc_12 hE) hg_5 rfl dX9_left_37 ?_
      obtain ⟨x1_6, ex1_6, h⟩ := ltv_ex h
      refine G.lstore_n (L' := [(1, .long x1_6), (0, .ref (eA E 0))]) C dX9_left_38 rfl ex1_6 (by decide) rfl ?_
      refine G.aload_n C 1 dX9_left_39 rfl rfl ?_
      refine G.getR (k := 3) C k_X9 (sc_0 hE) rfl (by decide) tg_482 dX9_left_40 ?_
      refine G.lload_n C 0 dX9_left_43 rfl rfl ?_
      obtain ⟨M_8, hv_7, h⟩ := bd_ex h
      refine G.callV (rest := []) C (s_X3_lay_19 hE  hv_7) ⟨tg_568, tg_93, ok_X3_lay, Nat.le_of_ble_eq_true rfl, Nat.le_of_ble_eq_true rfl⟩ tg_565 tg_566 tg_567 (sc_19 hE) rfl rfl (Nat.le_of_ble_eq_true rfl) dX9_left_44 ⟨Nat.le_refl 0, Nat.le_refl 0⟩ ?_
      refine G.aload_n C 1 dX9_left_47 rfl rfl ?_
      refine G.getR (k := 8) C k_X9 (sc_0 hE) rfl (by decide) tg_487 dX9_left_48 ?_
      refine G.aload_n C 1 dX9_left_51 rfl rfl ?_
      refine G.getR (k := 1) C k_X9 (sc_0 hE) rfl (by decide) tg_480 dX9_left_52 ?_
      obtain ⟨v_10, hv_9, h⟩ := bd_ex h
      refine G.callV (rest := []) C (s_X0_hollowsLeft_50_11 hE  hv_9) ⟨tg_582, tg_98, ok_X0_hollowsLeft, Nat.le_of_ble_eq_true rfl, Nat.le_of_ble_eq_true rfl⟩ tg_579 tg_580 tg_581 (sc_50 hE) rfl rfl (Nat.le_of_ble_eq_true rfl) dX9_left_55 ⟨Nat.le_refl 0, Nat.le_refl 0⟩ ?_
      refine G.aload_n C 1 dX9_left_58 rfl rfl ?_
      refine G.getR (k := 3) C k_X9 (sc_0 hE) rfl (by decide) tg_482 dX9_left_59 ?_
      refine G.lload_n C 0 dX9_left_62 rfl rfl ?_
      obtain ⟨v_12, hv_11, h⟩ := bd_ex h
      refine G.callS (rest := [.ref (eA E 19), .int v_10]) C (s_X4_reached  hv_11) ⟨tg_585, tg_101, ok_X4_reached, Nat.le_of_ble_eq_true rfl, Nat.le_of_ble_eq_true rfl⟩ tg_583 tg_584 rfl (Nat.le_of_ble_eq_true rfl) dX9_left_63 ⟨Nat.le_refl 0, Nat.le_refl 0⟩ ?_
      refine G.aload_n C 1 dX9_left_66 rfl rfl ?_
      refine G.getR (k := 8) C k_X9 (sc_0 hE) rfl (by decide) tg_487 dX9_left_67 ?_
      refine G.getJN (k := 1) C k_X0 (sc_50 hE) rfl (by decide) tw_371 dX9_left_70 ?_
      refine G.ldc2 C tg_538 dX9_left_73 ?_
      refine G.lxor C dX9_left_76 ?_
      refine G.land C dX9_left_77 ?_
      obtain ⟨v_15, M_14, hv_13, h⟩ := bd2_ex h
      refine G.callV (rest := [.int v_10]) C (s_X3_fewest_19 hE  hv_13) ⟨tg_590, tg_93, ok_X3_fewest, Nat.le_of_ble_eq_true rfl, Nat.le_of_ble_eq_true rfl⟩ tg_587 tg_588 tg_589 (sc_19 hE) rfl rfl (Nat.le_of_ble_eq_true rfl) dX9_left_78 ⟨Nat.le_refl 0, Nat.le_refl 0⟩ ?_
      refine G.iadd C dX9_left_81 ?_
      cases h
      exact G.iret C hr dX9_left_82
    · have h := it_t h hc
      refine G.iconst (v := (-1 : Int32)) C dX9_left_21 (by decide) ?_
      cases h
      exact G.iret C hr dX9_left_22
def f_X9_left_0  (M : Mm) : Option (Int32 × Mm) := bb_X9_left_0_0 M
theorem s_X9_left_0 {l : Launch} {E : Ev}  {M : Mm} {v : Int32} {M' : Mm} (hE : Has shC (eH E)) (h : f_X9_left_0 M = some (v, M')) : MetA l yX9_left cX9_left 3 (some .int) 24 E [.ref (eA E 0)] M (some (.int v)) M' := by
  refine MetA.of (by decide +kernel) (Nat.le_of_ble_eq_true rfl) ?_
  intro p e s m below meth c C hr hnm
  exact G.sub [0] rfl (gb_X9_left_0_0 hE C hr  h)
def bb_X9_image_0_0  (M : Mm) : Option (Int32 × Mm) := if (M.1 0 10) < 0 then (some ((-1 : Int32), M)) else (if (M.1 0 10) < (3 : Int32) then (if (M.1 0 10) = (0 : Int32) then (bd (f_X0_copyOf_55_50 M) fun M_2 => ltv (wI M_2 0 10 ((M_2.1 0 10) + (1 : Int32))) fun M_3 => some (M_3.1 0 10, M_3)) else (if (M.1 0 10) = (1 : Int32) then (bd (f_X0_copyOf_59_50 M) fun M_5 => ltv (wI M_5 0 10 ((M_5.1 0 10) + (1 : Int32))) fun M_6 => some (M_6.1 0 10, M_6)) else (if (M.1 0 10) = (2 : Int32) then (bd (f_X0_copyOf_63_50 M) fun M_8 => ltv (wI M_8 0 10 ((M_8.1 0 10) + (1 : Int32))) fun M_9 => some (M_9.1 0 10, M_9)) else (none)))) else (some ((-1 : Int32), M)))
set_option maxHeartbeats 4000000 in
set_option maxRecDepth 100000 in
theorem gb_X9_image_0_0   {M : Mm} {v : Int32} {M' : Mm} (hE : Has shC (eH E)) (C : Cx RX9 cX9_image 1 p (rmD 2) s m args meth c E) (hr : meth.sig.returnType = (some .int)) (h : bb_X9_image_0_0 M = some (v, M')) : G p l e (rmD 2) s m args below meth c E 1 0 0 (QR below args s E 0 0 (some (.int v)) M') 0 [(0, .ref (eA E 0))] [] M := by
  unfold bb_X9_image_0_0 at h
  refine G.aload_n C 0 dX9_image_0 rfl rfl ?_
  refine G.getI (k := 10) C k_X9 (sc_0 hE) rfl (by decide) tg_489 dX9_image_1 ?_
  refine G.if_lt (tgt := 19) C dX9_image_4 (by decide) (fun hc => ?_) (fun hc => ?_)
  · have h := it_t h hc
    refine G.iconst (v := (-1 : Int32)) C dX9_image_19 (by decide) ?_
    cases h
    exact G.iret C hr dX9_image_20
  · have h := it_f h hc
    refine G.aload_n C 0 dX9_image_7 rfl rfl ?_
    refine G.getI (k := 10) C k_X9 (sc_0 hE) rfl (by decide) tg_489 dX9_image_8 ?_
    refine G.aload_n C 0 dX9_image_11 rfl rfl ?_
    refine G.getR (k := 9) C k_X9 (sc_0 hE) rfl (by decide) tg_488 dX9_image_12 ?_
    refine G.alen (v := (3 : Int32)) C (sc_54 hE) rfl (by decide) dX9_image_15 ?_
    refine G.icmp_lt (tgt := 21) C dX9_image_16 (by decide) (fun hc => ?_) (fun hc => ?_)
    · have h := it_t h hc
      refine G.aload_n C 0 dX9_image_21 rfl rfl ?_
      refine G.getR (k := 9) C k_X9 (sc_0 hE) rfl (by decide) tg_488 dX9_image_22 ?_
      refine G.aload_n C 0 dX9_image_25 rfl rfl ?_
      refine G.getI (k := 10) C k_X9 (sc_0 hE) rfl (by decide) tg_489 dX9_image_26 ?_
      by_cases hc0 : (M.1 0 10) = (0 : Int32)
      · have h := it_t h hc0
        refine aald_q (k := 0) (t := 55) (ty := .object RX0) C (sc_54 hE) rfl rfl (by rw [hc0]; decide) (by rw [hc0]; rfl) dX9_image_29 ?_
        refine G.aload_n C 0 dX9_image_30 rfl rfl ?_
        refine G.getR (k := 8) C k_X9 (sc_0 hE) rfl (by decide) tg_487 dX9_image_31 ?_
        obtain ⟨M_2, hv_1, h⟩ := bd_ex h
        refine G.callV (rest := []) C (s_X0_copyOf_55_50 hE  hv_1) ⟨tg_619, tg_98, ok_X0_copyOf, Nat.le_of_ble_eq_true rfl, Nat.le_of_ble_eq_true rfl⟩ tg_616 tg_617 tg_618 (sc_55 hE) rfl rfl (Nat.le_of_ble_eq_true rfl) dX9_image_34 ⟨Nat.le_refl 0, Nat.le_refl 0⟩ ?_
        refine G.aload_n C 0 dX9_image_37 rfl rfl ?_
        refine G.dup C dX9_image_38 rfl ?_
        refine G.getI (k := 10) C k_X9 (sc_0 hE) rfl (by decide) tg_489 dX9_image_39 ?_
        refine G.iconst (v := (1 : Int32)) C dX9_image_42 (by decide) ?_
        refine G.iadd C dX9_image_43 ?_
        obtain ⟨M_3, eM_3, h⟩ := ltv_ex h
        refine G.putI (k := 10) C k_X9 (sc_0 hE) rfl (by decide) tg_489 rfl rfl dX9_image_44 eM_3 ?_
        refine G.aload_n C 0 dX9_image_47 rfl rfl ?_
        refine G.getI (k := 10) C k_X9 (sc_0 hE) rfl (by decide) tg_489 dX9_image_48 ?_
        cases h
        exact G.iret C hr dX9_image_51
      have h := it_f h hc0
      by_cases hc1 : (M.1 0 10) = (1 : Int32)
      · have h := it_t h hc1
        refine aald_q (k := 0) (t := 59) (ty := .object RX0) C (sc_54 hE) rfl rfl (by rw [hc1]; decide) (by rw [hc1]; rfl) dX9_image_29 ?_
        refine G.aload_n C 0 dX9_image_30 rfl rfl ?_
        refine G.getR (k := 8) C k_X9 (sc_0 hE) rfl (by decide) tg_487 dX9_image_31 ?_
        obtain ⟨M_5, hv_4, h⟩ := bd_ex h
        refine G.callV (rest := []) C (s_X0_copyOf_59_50 hE  hv_4) ⟨tg_619, tg_98, ok_X0_copyOf, Nat.le_of_ble_eq_true rfl, Nat.le_of_ble_eq_true rfl⟩ tg_616 tg_617 tg_618 (sc_59 hE) rfl rfl (Nat.le_of_ble_eq_true rfl) dX9_image_34 ⟨Nat.le_refl 0, Nat.le_refl 0⟩ ?_
        refine G.aload_n C 0 dX9_image_37 rfl rfl ?_
        refine G.dup C dX9_image_38 rfl ?_
        refine G.getI (k := 10) C k_X9 (sc_0 hE) rfl (by decide) tg_489 dX9_image_39 ?_
        refine G.iconst (v := (1 : Int32)) C dX9_image_42 (by decide) ?_
        refine G.iadd C dX9_image_43 ?_
        obtain ⟨M_6, eM_6, h⟩ := ltv_ex h
        refine G.putI (k := 10) C k_X9 (sc_0 hE) rfl (by decide) tg_489 rfl rfl dX9_image_44 eM_6 ?_
        refine G.aload_n C 0 dX9_image_47 rfl rfl ?_
        refine G.getI (k := 10) C k_X9 (sc_0 hE) rfl (by decide) tg_489 dX9_image_48 ?_
        cases h
        exact G.iret C hr dX9_image_51
      have h := it_f h hc1
      by_cases hc2 : (M.1 0 10) = (2 : Int32)
      · have h := it_t h hc2
        refine aald_q (k := 0) (t := 63) (ty := .object RX0) C (sc_54 hE) rfl rfl (by rw [hc2]; decide) (by rw [hc2]; rfl) dX9_image_29 ?_
        refine G.aload_n C 0 dX9_image_30 rfl rfl ?_
        refine G.getR (k := 8) C k_X9 (sc_0 hE) rfl (by decide) tg_487 dX9_image_31 ?_
        obtain ⟨M_8, hv_7, h⟩ := bd_ex h
        refine G.callV (rest := []) C (s_X0_copyOf_63_50 hE  hv_7) ⟨tg_619, tg_98, ok_X0_copyOf, Nat.le_of_ble_eq_true rfl, Nat.le_of_ble_eq_true rfl⟩ tg_616 tg_617 tg_618 (sc_63 hE) rfl rfl (Nat.le_of_ble_eq_true rfl) dX9_image_34 ⟨Nat.le_refl 0, Nat.le_refl 0⟩ ?_
        refine G.aload_n C 0 dX9_image_37 rfl rfl ?_
        refine G.dup C dX9_image_38 rfl ?_
        refine G.getI (k := 10) C k_X9 (sc_0 hE) rfl (by decide) tg_489 dX9_image_39 ?_
        refine G.iconst (v := (1 : Int32)) C dX9_image_42 (by decide) ?_
        refine G.iadd C dX9_image_43 ?_
        obtain ⟨M_9, eM_9, h⟩ := ltv_ex h
        refine G.putI (k := 10) C k_X9 (sc_0 hE) rfl (by decide) tg_489 rfl rfl dX9_image_44 eM_9 ?_
        refine G.aload_n C 0 dX9_image_47 rfl rfl ?_
        refine G.getI (k := 10) C k_X9 (sc_0 hE) rfl (by decide) tg_489 dX9_image_48 ?_
        cases h
        exact G.iret C hr dX9_image_51
      have h := it_f h hc2
      cases h
    · have h := it_f h hc
      refine G.iconst (v := (-1 : Int32)) C dX9_image_19 (by decide) ?_
      cases h
      exact G.iret C hr dX9_image_20
def f_X9_image_0  (M : Mm) : Option (Int32 × Mm) := bb_X9_image_0_0 M
theorem s_X9_image_0 {l : Launch} {E : Ev}  {M : Mm} {v : Int32} {M' : Mm} (hE : Has shC (eH E)) (h : f_X9_image_0 M = some (v, M')) : MetA l yX9_image cX9_image 1 (some .int) 2 E [.ref (eA E 0)] M (some (.int v)) M' := by
  refine MetA.of (by decide +kernel) (Nat.le_of_ble_eq_true rfl) ?_
  intro p e s m below meth c C hr hnm
  exact G.sub [0] rfl (gb_X9_image_0_0 hE C hr  h)
def bb_X9_restore_0_0  (M : Mm) : Option (Int32 × Mm) := if (M.1 0 10) ≤ 0 then (some ((-1 : Int32), M)) else (if (M.1 0 10) ≤ (3 : Int32) then (ltv (wI M 0 10 ((M.1 0 10) - (1 : Int32))) fun M_1 => if (M_1.1 0 10) = (0 : Int32) then (bd (f_X0_copyOf_50_55 M_1) fun M_3 => some (M_3.1 0 10, M_3)) else (if (M_1.1 0 10) = (1 : Int32) then (bd (f_X0_copyOf_50_59 M_1) fun M_5 => some (M_5.1 0 10, M_5)) else (if (M_1.1 0 10) = (2 : Int32) then (bd (f_X0_copyOf_50_63 M_1) fun M_7 => some (M_7.1 0 10, M_7)) else (none)))) else (some ((-1 : Int32), M)))
set_option maxHeartbeats 4000000 in
set_option maxRecDepth 100000 in
theorem gb_X9_restore_0_0   {M : Mm} {v : Int32} {M' : Mm} (hE : Has shC (eH E)) (C : Cx RX9 cX9_restore 1 p (rmD 2) s m args meth c E) (hr : meth.sig.returnType = (some .int)) (h : bb_X9_restore_0_0 M = some (v, M')) : G p l e (rmD 2) s m args below meth c E 1 0 0 (QR below args s E 0 0 (some (.int v)) M') 0 [(0, .ref (eA E 0))] [] M := by
  unfold bb_X9_restore_0_0 at h
  refine G.aload_n C 0 dX9_restore_0 rfl rfl ?_
  refine G.getI (k := 10) C k_X9 (sc_0 hE) rfl (by decide) tg_489 dX9_restore_1 ?_
  refine G.if_le (tgt := 19) C dX9_restore_4 (by decide) (fun hc => ?_) (fun hc => ?_)
  · have h := it_t h hc
    refine G.iconst (v := (-1 : Int32)) C dX9_restore_19 (by decide) ?_
    cases h
    exact G.iret C hr dX9_restore_20
  · have h := it_f h hc
    refine G.aload_n C 0 dX9_restore_7 rfl rfl ?_
    refine G.getI (k := 10) C k_X9 (sc_0 hE) rfl (by decide) tg_489 dX9_restore_8 ?_
    refine G.aload_n C 0 dX9_restore_11 rfl rfl ?_
    refine G.getR (k := 9) C k_X9 (sc_0 hE) rfl (by decide) tg_488 dX9_restore_12 ?_
    refine G.alen (v := (3 : Int32)) C (sc_54 hE) rfl (by decide) dX9_restore_15 ?_
    refine G.icmp_le (tgt := 21) C dX9_restore_16 (by decide) (fun hc => ?_) (fun hc => ?_)
    · have h := it_t h hc
      refine G.aload_n C 0 dX9_restore_21 rfl rfl ?_
      refine G.dup C dX9_restore_22 rfl ?_
      refine G.getI (k := 10) C k_X9 (sc_0 hE) rfl (by decide) tg_489 dX9_restore_23 ?_
      refine G.iconst (v := (1 : Int32)) C dX9_restore_26 (by decide) ?_
      refine G.isub C dX9_restore_27 ?_
      obtain ⟨M_1, eM_1, h⟩ := ltv_ex h
      refine G.putI (k := 10) C k_X9 (sc_0 hE) rfl (by decide) tg_489 rfl rfl dX9_restore_28 eM_1 ?_
      refine G.aload_n C 0 dX9_restore_31 rfl rfl ?_
      refine G.getR (k := 8) C k_X9 (sc_0 hE) rfl (by decide) tg_487 dX9_restore_32 ?_
      refine G.aload_n C 0 dX9_restore_35 rfl rfl ?_
      refine G.getR (k := 9) C k_X9 (sc_0 hE) rfl (by decide) tg_488 dX9_restore_36 ?_
      refine G.aload_n C 0 dX9_restore_39 rfl rfl ?_
      refine G.getI (k := 10) C k_X9 (sc_0 hE) rfl (by decide) tg_489 dX9_restore_40 ?_
      by_cases hc0 : (M_1.1 0 10) = (0 : Int32)
      · have h := it_t h hc0
        refine aald_q (k := 0) (t := 55) (ty := .object RX0) C (sc_54 hE) rfl rfl (by rw [hc0]; decide) (by rw [hc0]; rfl) dX9_restore_43 ?_
        obtain ⟨M_3, hv_2, h⟩ := bd_ex h
        refine G.callV (rest := []) C (s_X0_copyOf_50_55 hE  hv_2) ⟨tg_619, tg_98, ok_X0_copyOf, Nat.le_of_ble_eq_true rfl, Nat.le_of_ble_eq_true rfl⟩ tg_616 tg_617 tg_618 (sc_50 hE) rfl rfl (Nat.le_of_ble_eq_true rfl) dX9_restore_44 ⟨Nat.le_refl 0, Nat.le_refl 0⟩ ?_
        refine G.aload_n C 0 dX9_restore_47 rfl rfl ?_
        refine G.getI (k := 10) C k_X9 (sc_0 hE) rfl (by decide) tg_489 dX9_restore_48 ?_
        cases h
        exact G.iret C hr dX9_restore_51
      have h := it_f h hc0
      by_cases hc1 : (M_1.1 0 10) = (1 : Int32)
      · have h := it_t h hc1
        refine aald_q (k := 0) (t := 59) (ty := .object RX0) C (sc_54 hE) rfl rfl (by rw [hc1]; decide) (by rw [hc1]; rfl) dX9_restore_43 ?_
        obtain ⟨M_5, hv_4, h⟩ := bd_ex h
        refine G.callV (rest := []) C (s_X0_copyOf_50_59 hE  hv_4) ⟨tg_619, tg_98, ok_X0_copyOf, Nat.le_of_ble_eq_true rfl, Nat.le_of_ble_eq_true rfl⟩ tg_616 tg_617 tg_618 (sc_50 hE) rfl rfl (Nat.le_of_ble_eq_true rfl) dX9_restore_44 ⟨Nat.le_refl 0, Nat.le_refl 0⟩ ?_
        refine G.aload_n C 0 dX9_restore_47 rfl rfl ?_
        refine G.getI (k := 10) C k_X9 (sc_0 hE) rfl (by decide) tg_489 dX9_restore_48 ?_
        cases h
        exact G.iret C hr dX9_restore_51
      have h := it_f h hc1
      by_cases hc2 : (M_1.1 0 10) = (2 : Int32)
      · have h := it_t h hc2
        refine aald_q (k := 0) (t := 63) (ty := .object RX0) C (sc_54 hE) rfl rfl (by rw [hc2]; decide) (by rw [hc2]; rfl) dX9_restore_43 ?_
        obtain ⟨M_7, hv_6, h⟩ := bd_ex h
        refine G.callV (rest := []) C (s_X0_copyOf_50_63 hE  hv_6) ⟨tg_619, tg_98, ok_X0_copyOf, Nat.le_of_ble_eq_true rfl, Nat.le_of_ble_eq_true rfl⟩ tg_616 tg_617 tg_618 (sc_50 hE) rfl rfl (Nat.le_of_ble_eq_true rfl) dX9_restore_44 ⟨Nat.le_refl 0, Nat.le_refl 0⟩ ?_
        refine G.aload_n C 0 dX9_restore_47 rfl rfl ?_
        refine G.getI (k := 10) C k_X9 (sc_0 hE) rfl (by decide) tg_489 dX9_restore_48 ?_
        cases h
        exact G.iret C hr dX9_restore_51
      have h := it_f h hc2
      cases h
    · have h := it_f h hc
      refine G.iconst (v := (-1 : Int32)) C dX9_restore_19 (by decide) ?_
      cases h
      exact G.iret C hr dX9_restore_20
def f_X9_restore_0  (M : Mm) : Option (Int32 × Mm) := bb_X9_restore_0_0 M
theorem s_X9_restore_0 {l : Launch} {E : Ev}  {M : Mm} {v : Int32} {M' : Mm} (hE : Has shC (eH E)) (h : f_X9_restore_0 M = some (v, M')) : MetA l yX9_restore cX9_restore 1 (some .int) 2 E [.ref (eA E 0)] M (some (.int v)) M' := by
  refine MetA.of (by decide +kernel) (Nat.le_of_ble_eq_true rfl) ?_
  intro p e s m below meth c C hr hnm
  exact G.sub [0] rfl (gb_X9_restore_0_0 hE C hr  h)
def bb_X9_count_0_0 (x1 : Int32) (M : Mm) : Option Int32 := if x1 = (0 : Int32) then (some (M.1 50 5)) else (if x1 = (1 : Int32) then (some (M.1 50 7)) else (if x1 = (2 : Int32) then (some (M.1 0 10)) else (if x1 = (3 : Int32) then (some (M.1 1 2)) else (some (-1 : Int32)))))
set_option maxHeartbeats 4000000 in
set_option maxRecDepth 100000 in
theorem gb_X9_count_0_0  {x1 : Int32} {M : Mm} {v : Int32} (hE : Has shC (eH E)) (C : Cx RX9 cX9_count 2 p (rmD 1) s m args meth c E) (hr : meth.sig.returnType = (some .int)) (h : bb_X9_count_0_0 x1 M = some v) : G p l e (rmD 1) s m args below meth c E 2 0 0 (QR below args s E 0 0 (some (.int v)) M) 0 [(0, .ref (eA E 0)), (1, .int x1)] [] M := by
  unfold bb_X9_count_0_0 at h
  refine G.iload_n C 1 dX9_count_0 rfl rfl ?_
  by_cases hc0 : x1 = (0 : Int32)
  · have h := it_t h hc0
    refine G.tableIn (tgt := 32) C dX9_count_1 (by rw [hc0]; decide) (by rw [hc0]; decide) (by rw [hc0]; rfl) (by decide) ?_
    refine G.aload_n C 0 dX9_count_32 rfl rfl ?_
    refine G.getR (k := 8) C k_X9 (sc_0 hE) rfl (by decide) tg_487 dX9_count_33 ?_
    refine G.getIN (k := 5) C k_X0 (sc_50 hE) rfl (by decide) tw_377 dX9_count_36 ?_
    cases h
    exact G.iret C hr dX9_count_39
  have h := it_f h hc0
  by_cases hc1 : x1 = (1 : Int32)
  · have h := it_t h hc1
    refine G.tableIn (tgt := 40) C dX9_count_1 (by rw [hc1]; decide) (by rw [hc1]; decide) (by rw [hc1]; rfl) (by decide) ?_
    refine G.aload_n C 0 dX9_count_40 rfl rfl ?_
    refine G.getR (k := 8) C k_X9 (sc_0 hE) rfl (by decide) tg_487 dX9_count_41 ?_
    refine G.getIN (k := 7) C k_X0 (sc_50 hE) rfl (by decide) tw_382 dX9_count_44 ?_
    cases h
    exact G.iret C hr dX9_count_47
  have h := it_f h hc1
  by_cases hc2 : x1 = (2 : Int32)
  · have h := it_t h hc2
    refine G.tableIn (tgt := 48) C dX9_count_1 (by rw [hc2]; decide) (by rw [hc2]; decide) (by rw [hc2]; rfl) (by decide) ?_
    refine G.aload_n C 0 dX9_count_48 rfl rfl ?_
    refine G.getI (k := 10) C k_X9 (sc_0 hE) rfl (by decide) tg_489 dX9_count_49 ?_
    cases h
    exact G.iret C hr dX9_count_52
  have h := it_f h hc2
  by_cases hc3 : x1 = (3 : Int32)
  · have h := it_t h hc3
    refine G.tableIn (tgt := 53) C dX9_count_1 (by rw [hc3]; decide) (by rw [hc3]; decide) (by rw [hc3]; rfl) (by decide) ?_
    refine G.aload_n C 0 dX9_count_53 rfl rfl ?_
    refine G.getR (k := 0) C k_X9 (sc_0 hE) rfl (by decide) tg_479 dX9_count_54 ?_
    refine G.getIN (k := 2) C k_X8 (sc_1 hE) rfl (by decide) tw_198 dX9_count_57 ?_
    cases h
    exact G.iret C hr dX9_count_60
  have h := it_f h hc3
  refine G.tableOut (tgt := 61) C dX9_count_1 (by have q0 := ne_toInt (z := 0) (by decide) hc0; have q1 := ne_toInt (z := 1) (by decide) hc1; have q2 := ne_toInt (z := 2) (by decide) hc2; have q3 := ne_toInt (z := 3) (by decide) hc3; omega) (by decide) ?_
  refine G.iconst (v := (-1 : Int32)) C dX9_count_61 (by decide) ?_
  cases h
  exact G.iret C hr dX9_count_62
def f_X9_count_0 (x1 : Int32) (M : Mm) : Option Int32 := bb_X9_count_0_0 x1 M
theorem s_X9_count_0 {l : Launch} {E : Ev} {x1 : Int32} {M : Mm} {v : Int32} (hE : Has shC (eH E)) (h : f_X9_count_0 x1 M = some v) : MetA l yX9_count cX9_count 2 (some .int) 1 E [.ref (eA E 0), .int x1] M (some (.int v)) M := by
  refine MetA.of (by decide +kernel) (Nat.le_of_ble_eq_true rfl) ?_
  intro p e s m below meth c C hr hnm
  exact G.sub [0, 1] rfl (gb_X9_count_0_0 hE C hr  h)
def bb_X9_linesOf_0_0 (x1 : Int32) (M : Mm) : Option (Int64 × Mm) := if x1 < 0 then (some ((0 : Int64), M)) else (if x1 < (M.1 11 7) then (gd (inb x1 10) (ltv (M.2 13 (ix x1)) fun x2_2 => if x2_2 = (-1 : Int64) then (gd (inb x1 10) (ltv (M.2 12 (ix x1)) fun x4_4 => bd (f_X3_lay_19 x4_4 M) fun M_6 => bd (f_X4_reached x4_4) fun v_8 => bd2 (f_X3_leastSet_19 v_8 M_6) fun v_11 M_10 => gd (inb x1 10) (ltv (wJ M_10 13 (ix x1) v_11) fun M_13 => some (v_11, M_13)))) else (some (x2_2, M)))) else (some ((0 : Int64), M)))
set_option maxHeartbeats 4000000 in
set_option maxRecDepth 100000 in
theorem gb_X9_linesOf_0_0  {x1 : Int32} {M : Mm} {v : Int64} {M' : Mm} (hE : Has shC (eH E)) (C : Cx RX9 cX9_linesOf 8 p (rmD 25) s m args meth c E) (hr : meth.sig.returnType = (some .long)) (h : bb_X9_linesOf_0_0 x1 M = some (v, M')) : G p l e (rmD 25) s m args below meth c E 8 0 0 (QR below args s E 0 0 (some (.long v)) M') 0 [(0, .ref (eA E 0)), (1, .int x1)] [] M := by
  unfold bb_X9_linesOf_0_0 at h
  refine G.iload_n C 1 dX9_linesOf_0 rfl rfl ?_
  refine G.if_lt (tgt := 15) C dX9_linesOf_1 (by decide) (fun hc => ?_) (fun hc => ?_)
  · have h := it_t h hc
    refine G.lconst (v := (0 : Int64)) C dX9_linesOf_15 (by decide) ?_
    cases h
    exact G.lret C hr dX9_linesOf_16
  · have h := it_f h hc
    refine G.iload_n C 1 dX9_linesOf_4 rfl rfl ?_
    refine G.aload_n C 0 dX9_linesOf_5 rfl rfl ?_
    refine G.getR (k := 1) C k_X9 (sc_0 hE) rfl (by decide) tg_480 dX9_linesOf_6 ?_
    refine G.getIN (k := 7) C k_X7 (sc_11 hE) rfl (by decide) tw_159 dX9_linesOf_9 ?_
    refine G.icmp_lt (tgt := 17) C dX9_linesOf_12 (by decide) (fun hc => ?_) (fun hc => ?_)
    · have h := it_t h hc
      refine G.aload_n C 0 dX9_linesOf_17 rfl rfl ?_
      refine G.getR (k := 1) C k_X9 (sc_0 hE) rfl (by decide) tg_480 dX9_linesOf_18 ?_
      refine G.getRN (k := 1) C k_X7 (sc_11 hE) rfl (by decide) tw_139 dX9_linesOf_21 ?_
      refine G.iload_n C 1 dX9_linesOf_24 rfl rfl ?_
      obtain ⟨hg_1, h⟩ := gd_ex h
      refine G.aJ (j := ix x1) C (sc_13 hE) hg_1 rfl dX9_linesOf_25 ?_
      obtain ⟨x2_2, ex2_2, h⟩ := ltv_ex h
      refine G.lstore_n (L' := [(2, .long x2_2), (0, .ref (eA E 0)), (1, .int x1)]) C dX9_linesOf_26 rfl ex2_2 (by decide) rfl ?_
      refine G.lload_n C 0 dX9_linesOf_27 rfl rfl ?_
      refine G.ldc2 C tg_538 dX9_linesOf_28 ?_
      refine G.lcmp C dX9_linesOf_31 (G.if_eq (tgt := 37) C dX9_linesOf_32 (by decide) (fun hc => ?_) (fun hc => ?_))
      · have h := it_t h (lgc_eq.mp hc)
        refine G.aload_n C 1 dX9_linesOf_37 rfl rfl ?_
        refine G.getR (k := 1) C k_X9 (sc_0 hE) rfl (by decide) tg_480 dX9_linesOf_38 ?_
        refine G.getRN (k := 0) C k_X7 (sc_11 hE) rfl (by decide) tw_137 dX9_linesOf_41 ?_
        refine G.iload_n C 2 dX9_linesOf_44 rfl rfl ?_
        obtain ⟨hg_3, h⟩ := gd_ex h
        refine G.aJ (j := ix x1) C (sc_12 hE) hg_3 rfl dX9_linesOf_45 ?_
        obtain ⟨x4_4, ex4_4, h⟩ := ltv_ex h
        refine G.lstore (L' := [(4, .long x4_4), (2, .long x2_2), (0, .ref (eA E 0)), (1, .int x1)]) C dX9_linesOf_46 ex4_4 (by decide) rfl ?_
        refine G.aload_n C 2 dX9_linesOf_48 rfl rfl ?_
        refine G.getR (k := 3) C k_X9 (sc_0 hE) rfl (by decide) tg_482 dX9_linesOf_49 ?_
        refine G.lload C 0 dX9_linesOf_52 rfl ?_
        obtain ⟨M_6, hv_5, h⟩ := bd_ex h
        refine G.callV (rest := []) C (s_X3_lay_19 hE  hv_5) ⟨tg_568, tg_93, ok_X3_lay, Nat.le_of_ble_eq_true rfl, Nat.le_of_ble_eq_true rfl⟩ tg_565 tg_566 tg_567 (sc_19 hE) rfl rfl (Nat.le_of_ble_eq_true rfl) dX9_linesOf_54 ⟨Nat.le_refl 0, Nat.le_refl 0⟩ ?_
        refine G.aload_n C 2 dX9_linesOf_57 rfl rfl ?_
        refine G.getR (k := 3) C k_X9 (sc_0 hE) rfl (by decide) tg_482 dX9_linesOf_58 ?_
        refine G.lload C 0 dX9_linesOf_61 rfl ?_
        obtain ⟨v_8, hv_7, h⟩ := bd_ex h
        refine G.callS (rest := [.ref (eA E 19)]) C (s_X4_reached  hv_7) ⟨tg_585, tg_101, ok_X4_reached, Nat.le_of_ble_eq_true rfl, Nat.le_of_ble_eq_true rfl⟩ tg_583 tg_584 rfl (Nat.le_of_ble_eq_true rfl) dX9_linesOf_63 ⟨Nat.le_refl 0, Nat.le_refl 0⟩ ?_
        obtain ⟨v_11, M_10, hv_9, h⟩ := bd2_ex h
        refine G.callV (rest := []) C (s_X3_leastSet_19 hE  hv_9) ⟨tg_1028, tg_93, ok_X3_leastSet, Nat.le_of_ble_eq_true rfl, Nat.le_of_ble_eq_true rfl⟩ tg_1025 tg_1026 tg_1027 (sc_19 hE) rfl rfl (Nat.le_of_ble_eq_true rfl) dX9_linesOf_66 ⟨Nat.le_refl 0, Nat.le_refl 0⟩ ?_
        refine G.lstore (L' := [(6, .long v_11), (4, .long x4_4), (2, .long x2_2), (0, .ref (eA E 0)), (1, .int x1)]) C dX9_linesOf_69 rfl (by decide) rfl ?_
        refine G.aload_n C 3 dX9_linesOf_71 rfl rfl ?_
        refine G.getR (k := 1) C k_X9 (sc_0 hE) rfl (by decide) tg_480 dX9_linesOf_72 ?_
        refine G.getRN (k := 1) C k_X7 (sc_11 hE) rfl (by decide) tw_139 dX9_linesOf_75 ?_
        refine G.iload_n C 4 dX9_linesOf_78 rfl rfl ?_
        refine G.lload C 0 dX9_linesOf_79 rfl ?_
        obtain ⟨hg_12, h⟩ := gd_ex h
        obtain ⟨M_13, eM_13, h⟩ := ltv_ex h
        refine G.sJ (j := (ix x1)) C (sc_13 hE) hg_12 rfl dX9_linesOf_81 eM_13 ?_
        refine G.lload C 0 dX9_linesOf_82 rfl ?_
        cases h
        exact G.lret C hr dX9_linesOf_84
      · have h := it_f h ((not_congr lgc_eq).mp hc)
        refine G.lload_n C 0 dX9_linesOf_35 rfl rfl ?_
        cases h
        exact G.lret C hr dX9_linesOf_36
    · have h := it_f h hc
      refine G.lconst (v := (0 : Int64)) C dX9_linesOf_15 (by decide) ?_
      cases h
      exact G.lret C hr dX9_linesOf_16
def f_X9_linesOf_0 (x1 : Int32) (M : Mm) : Option (Int64 × Mm) := bb_X9_linesOf_0_0 x1 M
theorem s_X9_linesOf_0 {l : Launch} {E : Ev} {x1 : Int32} {M : Mm} {v : Int64} {M' : Mm} (hE : Has shC (eH E)) (h : f_X9_linesOf_0 x1 M = some (v, M')) : MetA l yX9_linesOf cX9_linesOf 8 (some .long) 25 E [.ref (eA E 0), .int x1] M (some (.long v)) M' := by
  refine MetA.of (by decide +kernel) (Nat.le_of_ble_eq_true rfl) ?_
  intro p e s m below meth c C hr hnm
  exact G.sub [0, 1] rfl (gb_X9_linesOf_0_0 hE C hr  h)
end
