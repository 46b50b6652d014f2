section
variable {p : Program} {l : Launch} {e : Env} {s : State} {m : MethodId} {args : Array Value} {below : List Frame} {meth : Method} {c : Code} {E : Ev}
def bb_X8_putNumber_1_3 (k_3 : Int32 → Int32 → Mm → Option Mm) (x1 : Int32) (x2 : Int32) (M : Mm) : Option Mm := if x2 < 0 then (some M) else (if (500 : Int32) ≤ (M.1 1 2) then (some M) else (gd (inb (M.1 1 2) 500) (ltv (wI M 2 (ix (M.1 1 2)) ((ushI x1 x2) &&& (255 : Int32))) fun M_2 => ltv (wI M_2 1 2 ((M_2.1 1 2) + (1 : Int32))) fun M_3 => ltv (x2 + (-8 : Int32)) fun x2_4 => k_3 x1 x2_4 M_3)))
set_option maxHeartbeats 4000000 in
set_option maxRecDepth 100000 in
theorem gb_X8_putNumber_1_3  {k_3 : Int32 → Int32 → Mm → Option Mm} {x1 : Int32} {x2 : Int32} {M : Mm} {M' : Mm} (hE : Has shC (eH E)) (C : Cx RX8 cX8_putNumber 3 p (rmD 1) s m args meth c E) (hr : meth.sig.returnType = none) (hk_3 : ∀ (x1 : Int32) (x2 : Int32) (M : Mm), k_3 x1 x2 M = some M' → G p l e (rmD 1) s m args below meth c E 3 0 0 (QR below args s E 0 0 none M') 3 [(0, .ref (eA E 1)), (1, .int x1), (2, .int x2)] [] M) (h : bb_X8_putNumber_1_3 k_3 x1 x2 M = some M') : G p l e (rmD 1) s m args below meth c E 3 0 0 (QR below args s E 0 0 none M') 3 [(0, .ref (eA E 1)), (1, .int x1), (2, .int x2)] [] M := by
  unfold bb_X8_putNumber_1_3 at h
  refine G.iload_n C 2 dX8_putNumber_3 rfl rfl ?_
  refine G.if_lt (tgt := 49) C dX8_putNumber_4 (by decide) (fun hc => ?_) (fun hc => ?_)
  · have h := it_t h hc
    cases h
    exact G.vret C hr dX8_putNumber_49
  · have h := it_f h hc
    refine G.aload_n C 0 dX8_putNumber_7 rfl rfl ?_
    refine G.getI (k := 2) C k_X8 (sc_1 hE) rfl (by decide) tg_197 dX8_putNumber_8 ?_
    refine G.sipush (v := (500 : Int32)) C dX8_putNumber_11 (by decide) ?_
    refine G.icmp_ge (tgt := 49) C dX8_putNumber_14 (by decide) (fun hc => ?_) (fun hc => ?_)
    · have h := it_t h hc
      cases h
      exact G.vret C hr dX8_putNumber_49
    · have h := it_f h hc
      refine G.aload_n C 0 dX8_putNumber_17 rfl rfl ?_
      refine G.getR (k := 0) C k_X8 (sc_1 hE) rfl (by decide) tg_194 dX8_putNumber_18 ?_
      refine G.aload_n C 0 dX8_putNumber_21 rfl rfl ?_
      refine G.getI (k := 2) C k_X8 (sc_1 hE) rfl (by decide) tg_197 dX8_putNumber_22 ?_
      refine G.iload_n C 1 dX8_putNumber_25 rfl rfl ?_
      refine G.iload_n C 2 dX8_putNumber_26 rfl rfl ?_
      refine G.iushr (v := ushI x1 x2) C dX8_putNumber_27 rfl ?_
      refine G.sipush (v := (255 : Int32)) C dX8_putNumber_28 (by decide) ?_
      refine G.iand C dX8_putNumber_31 ?_
      obtain ⟨hg_1, h⟩ := gd_ex h
      obtain ⟨M_2, eM_2, h⟩ := ltv_ex h
      refine G.sI (j := (ix (M.1 1 2))) C (sc_2 hE) hg_1 rfl dX8_putNumber_32 eM_2 ?_
      refine G.aload_n C 0 dX8_putNumber_33 rfl rfl ?_
      refine G.dup C dX8_putNumber_34 rfl ?_
      refine G.getI (k := 2) C k_X8 (sc_1 hE) rfl (by decide) tg_197 dX8_putNumber_35 ?_
      refine G.iconst (v := (1 : Int32)) C dX8_putNumber_38 (by decide) ?_
      refine G.iadd C dX8_putNumber_39 ?_
      obtain ⟨M_3, eM_3, h⟩ := ltv_ex h
      refine G.putI (k := 2) C k_X8 (sc_1 hE) rfl (by decide) tg_197 rfl rfl dX8_putNumber_40 eM_3 ?_
      obtain ⟨x2_4, ex2_4, h⟩ := ltv_ex h
      refine G.iinc (L' := [(2, .int x2_4), (0, .ref (eA E 1)), (1, .int x1)]) C 2 dX8_putNumber_43 rfl (ex2_4.trans rfl) (by decide) rfl ?_
      refine G.goto (tgt := 3) C dX8_putNumber_46 (by decide) ?_
      exact G.sub [1, 2, 0] rfl (hk_3 _ _ _  h)
def b_X8_putNumber_1_3 : Nat → Int32 → Int32 → Mm → Option Mm
  | 0, _, _, _ => none
  | n + 1, x1, x2, M => bb_X8_putNumber_1_3 (b_X8_putNumber_1_3 n) x1 x2 M
set_option maxHeartbeats 4000000 in
theorem g_X8_putNumber_1_3  {n : Nat} {x1 : Int32} {x2 : Int32} {M : Mm} {M' : Mm} (hE : Has shC (eH E)) (C : Cx RX8 cX8_putNumber 3 p (rmD 1) s m args meth c E) (hr : meth.sig.returnType = none) (h : b_X8_putNumber_1_3 n x1 x2 M = some M') : G p l e (rmD 1) s m args below meth c E 3 0 0 (QR below args s E 0 0 none M') 3 [(0, .ref (eA E 1)), (1, .int x1), (2, .int x2)] [] M := by
  induction n generalizing x1 x2 M with
  | zero => cases h
  | succ n ih => exact gb_X8_putNumber_1_3 hE C hr (fun _ _ _ => ih)  h
def bb_X8_putNumber_1_0 (x1 : Int32) (M : Mm) : Option Mm := b_X8_putNumber_1_3 FU x1 (24 : Int32) M
set_option maxHeartbeats 4000000 in
set_option maxRecDepth 100000 in
theorem gb_X8_putNumber_1_0  {x1 : Int32} {M : Mm} {M' : Mm} (hE : Has shC (eH E)) (C : Cx RX8 cX8_putNumber 3 p (rmD 1) s m args meth c E) (hr : meth.sig.returnType = none) (h : bb_X8_putNumber_1_0 x1 M = some M') : G p l e (rmD 1) s m args below meth c E 3 0 0 (QR below args s E 0 0 none M') 0 [(0, .ref (eA E 1)), (1, .int x1)] [] M := by
  unfold bb_X8_putNumber_1_0 at h
  refine G.bipush (v := (24 : Int32)) C dX8_putNumber_0 (by decide) ?_
  refine G.istore_n (L' := [(2, .int (24 : Int32)), (0, .ref (eA E 1)), (1, .int x1)]) C dX8_putNumber_2 rfl rfl (by decide) rfl ?_
  exact G.sub [1, 2, 0] rfl (g_X8_putNumber_1_3 hE C hr  h)
def f_X8_putNumber_1 (x1 : Int32) (M : Mm) : Option Mm := bb_X8_putNumber_1_0 x1 M
theorem s_X8_putNumber_1 {l : Launch} {E : Ev} {x1 : Int32} {M : Mm} {M' : Mm} (hE : Has shC (eH E)) (h : f_X8_putNumber_1 x1 M = some M') : MetA l yX8_putNumber cX8_putNumber 3 none 1 E [.ref (eA E 1), .int x1] M none M' := by
  refine MetA.of (by decide +kernel) (Nat.le_of_ble_eq_true rfl) ?_
  intro p e s m below meth c C hr hnm
  exact G.sub [0, 1] rfl (gb_X8_putNumber_1_0 hE C hr  h)
def bb_J7_fill_d0a16_4_6 (k_6 : Int64 → Int32 → Int32 → Mm → Option Mm) (x1 : Int64) (x3 : Int32) (x4 : Int32) (M : Mm) : Option Mm := if x4 ≤ x3 then (some M) else (gd (inb x3 10) (ltv (wJ M 4 (ix x3) x1) fun M_2 => ltv (x3 + (1 : Int32)) fun x3_3 => k_6 x1 x3_3 x4 M_2))
set_option maxHeartbeats 4000000 in
set_option maxRecDepth 100000 in
theorem gb_J7_fill_d0a16_4_6  {k_6 : Int64 → Int32 → Int32 → Mm → Option Mm} {x1 : Int64} {x3 : Int32} {x4 : Int32} {M : Mm} {M' : Mm} (hE : Has shC (eH E)) (C : Cx RJ7 cJ7_fill_d0a16 5 p (rmD 1) s m args meth c E) (hr : meth.sig.returnType = none) (hk_6 : ∀ (x1 : Int64) (x3 : Int32) (x4 : Int32) (M : Mm), k_6 x1 x3 x4 M = some M' → G p l e (rmD 1) s m args below meth c E 5 0 0 (QR below args s E 0 0 none M') 6 [(0, .ref (eA E 4)), (1, .long x1), (3, .int x3), (4, .int x4)] [] M) (h : bb_J7_fill_d0a16_4_6 k_6 x1 x3 x4 M = some M') : G p l e (rmD 1) s m args below meth c E 5 0 0 (QR below args s E 0 0 none M') 6 [(0, .ref (eA E 4)), (1, .long x1), (3, .int x3), (4, .int x4)] [] M := by
  unfold bb_J7_fill_d0a16_4_6 at h
  refine G.iload_n C 2 dJ7_fill_d0a16_6 rfl rfl ?_
  refine G.iload C 3 dJ7_fill_d0a16_7 rfl ?_
  refine G.icmp_ge (tgt := 22) C dJ7_fill_d0a16_9 (by decide) (fun hc => ?_) (fun hc => ?_)
  · have h := it_t h hc
    cases h
    exact G.vret C hr dJ7_fill_d0a16_22
  · have h := it_f h hc
    refine G.aload_n C 0 dJ7_fill_d0a16_12 rfl rfl ?_
    refine G.iload_n C 2 dJ7_fill_d0a16_13 rfl rfl ?_
    refine G.lload_n C 1 dJ7_fill_d0a16_14 rfl rfl ?_
    obtain ⟨hg_1, h⟩ := gd_ex h
    obtain ⟨M_2, eM_2, h⟩ := ltv_ex h
    refine G.sJ (j := (ix x3)) C (sc_4 hE) hg_1 rfl dJ7_fill_d0a16_15 eM_2 ?_
    obtain ⟨x3_3, ex3_3, h⟩ := ltv_ex h
    refine G.iinc (L' := [(3, .int x3_3), (0, .ref (eA E 4)), (1, .long x1), (4, .int x4)]) C 2 dJ7_fill_d0a16_16 rfl (ex3_3.trans rfl) (by decide) rfl ?_
    refine G.goto (tgt := 6) C dJ7_fill_d0a16_19 (by decide) ?_
    exact G.sub [1, 2, 0, 3] rfl (hk_6 _ _ _ _  h)
def b_J7_fill_d0a16_4_6 : Nat → Int64 → Int32 → Int32 → Mm → Option Mm
  | 0, _, _, _, _ => none
  | n + 1, x1, x3, x4, M => bb_J7_fill_d0a16_4_6 (b_J7_fill_d0a16_4_6 n) x1 x3 x4 M
set_option maxHeartbeats 4000000 in
theorem g_J7_fill_d0a16_4_6  {n : Nat} {x1 : Int64} {x3 : Int32} {x4 : Int32} {M : Mm} {M' : Mm} (hE : Has shC (eH E)) (C : Cx RJ7 cJ7_fill_d0a16 5 p (rmD 1) s m args meth c E) (hr : meth.sig.returnType = none) (h : b_J7_fill_d0a16_4_6 n x1 x3 x4 M = some M') : G p l e (rmD 1) s m args below meth c E 5 0 0 (QR below args s E 0 0 none M') 6 [(0, .ref (eA E 4)), (1, .long x1), (3, .int x3), (4, .int x4)] [] M := by
  induction n generalizing x1 x3 x4 M with
  | zero => cases h
  | succ n ih => exact gb_J7_fill_d0a16_4_6 hE C hr (fun _ _ _ _ => ih)  h
def bb_J7_fill_d0a16_4_0 (x1 : Int64) (M : Mm) : Option Mm := b_J7_fill_d0a16_4_6 FU x1 (0 : Int32) (10 : Int32) M
set_option maxHeartbeats 4000000 in
set_option maxRecDepth 100000 in
theorem gb_J7_fill_d0a16_4_0  {x1 : Int64} {M : Mm} {M' : Mm} (hE : Has shC (eH E)) (C : Cx RJ7 cJ7_fill_d0a16 5 p (rmD 1) s m args meth c E) (hr : meth.sig.returnType = none) (h : bb_J7_fill_d0a16_4_0 x1 M = some M') : G p l e (rmD 1) s m args below meth c E 5 0 0 (QR below args s E 0 0 none M') 0 [(0, .ref (eA E 4)), (1, .long x1)] [] M := by
  unfold bb_J7_fill_d0a16_4_0 at h
  refine G.iconst (v := (0 : Int32)) C dJ7_fill_d0a16_0 (by decide) ?_
  refine G.istore_n (L' := [(3, .int (0 : Int32)), (0, .ref (eA E 4)), (1, .long x1)]) C dJ7_fill_d0a16_1 rfl rfl (by decide) rfl ?_
  refine G.aload_n C 1 dJ7_fill_d0a16_2 rfl rfl ?_
  refine G.alen (v := (10 : Int32)) C (sc_4 hE) rfl (by decide) dJ7_fill_d0a16_3 ?_
  refine G.istore (L' := [(4, .int (10 : Int32)), (3, .int (0 : Int32)), (0, .ref (eA E 4)), (1, .long x1)]) C dJ7_fill_d0a16_4 rfl (by decide) rfl ?_
  exact G.sub [2, 3, 1, 0] rfl (g_J7_fill_d0a16_4_6 hE C hr  h)
def f_J7_fill_d0a16_4 (x1 : Int64) (M : Mm) : Option Mm := bb_J7_fill_d0a16_4_0 x1 M
theorem s_J7_fill_d0a16_4 {l : Launch} {E : Ev} {x1 : Int64} {M : Mm} {M' : Mm} (hE : Has shC (eH E)) (h : f_J7_fill_d0a16_4 x1 M = some M') : MetA l yJ7_fill_d0a16 cJ7_fill_d0a16 5 none 1 E [.ref (eA E 4), .long x1] M none M' := by
  refine MetA.of (by decide +kernel) (Nat.le_of_ble_eq_true rfl) ?_
  intro p e s m below meth c C hr hnm
  exact G.sub [0, 1] rfl (gb_J7_fill_d0a16_4_0 hE C hr  h)
def bb_J7_fill_d0a16_5_6 (k_6 : Int64 → Int32 → Int32 → Mm → Option Mm) (x1 : Int64) (x3 : Int32) (x4 : Int32) (M : Mm) : Option Mm := if x4 ≤ x3 then (some M) else (gd (inb x3 10) (ltv (wJ M 5 (ix x3) x1) fun M_2 => ltv (x3 + (1 : Int32)) fun x3_3 => k_6 x1 x3_3 x4 M_2))
set_option maxHeartbeats 4000000 in
set_option maxRecDepth 100000 in
theorem gb_J7_fill_d0a16_5_6  {k_6 : Int64 → Int32 → Int32 → Mm → Option Mm} {x1 : Int64} {x3 : Int32} {x4 : Int32} {M : Mm} {M' : Mm} (hE : Has shC (eH E)) (C : Cx RJ7 cJ7_fill_d0a16 5 p (rmD 1) s m args meth c E) (hr : meth.sig.returnType = none) (hk_6 : ∀ (x1 : Int64) (x3 : Int32) (x4 : Int32) (M : Mm), k_6 x1 x3 x4 M = some M' → G p l e (rmD 1) s m args below meth c E 5 0 0 (QR below args s E 0 0 none M') 6 [(0, .ref (eA E 5)), (1, .long x1), (3, .int x3), (4, .int x4)] [] M) (h : bb_J7_fill_d0a16_5_6 k_6 x1 x3 x4 M = some M') : G p l e (rmD 1) s m args below meth c E 5 0 0 (QR below args s E 0 0 none M') 6 [(0, .ref (eA E 5)), (1, .long x1), (3, .int x3), (4, .int x4)] [] M := by
  unfold bb_J7_fill_d0a16_5_6 at h
  refine G.iload_n C 2 dJ7_fill_d0a16_6 rfl rfl ?_
  refine G.iload C 3 dJ7_fill_d0a16_7 rfl ?_
  refine G.icmp_ge (tgt := 22) C dJ7_fill_d0a16_9 (by decide) (fun hc => ?_) (fun hc => ?_)
  · have h := it_t h hc
    cases h
    exact G.vret C hr dJ7_fill_d0a16_22
  · have h := it_f h hc
    refine G.aload_n C 0 dJ7_fill_d0a16_12 rfl rfl ?_
    refine G.iload_n C 2 dJ7_fill_d0a16_13 rfl rfl ?_
    refine G.lload_n C 1 dJ7_fill_d0a16_14 rfl rfl ?_
    obtain ⟨hg_1, h⟩ := gd_ex h
    obtain ⟨M_2, eM_2, h⟩ := ltv_ex h
    refine G.sJ (j := (ix x3)) C (sc_5 hE) hg_1 rfl dJ7_fill_d0a16_15 eM_2 ?_
    obtain ⟨x3_3, ex3_3, h⟩ := ltv_ex h
    refine G.iinc (L' := [(3, .int x3_3), (0, .ref (eA E 5)), (1, .long x1), (4, .int x4)]) C 2 dJ7_fill_d0a16_16 rfl (ex3_3.trans rfl) (by decide) rfl ?_
    refine G.goto (tgt := 6) C dJ7_fill_d0a16_19 (by decide) ?_
    exact G.sub [1, 2, 0, 3] rfl (hk_6 _ _ _ _  h)
def b_J7_fill_d0a16_5_6 : Nat → Int64 → Int32 → Int32 → Mm → Option Mm
  | 0, _, _, _, _ => none
  | n + 1, x1, x3, x4, M => bb_J7_fill_d0a16_5_6 (b_J7_fill_d0a16_5_6 n) x1 x3 x4 M
set_option maxHeartbeats 4000000 in
theorem g_J7_fill_d0a16_5_6  {n : Nat} {x1 : Int64} {x3 : Int32} {x4 : Int32} {M : Mm} {M' : Mm} (hE : Has shC (eH E)) (C : Cx RJ7 cJ7_fill_d0a16 5 p (rmD 1) s m args meth c E) (hr : meth.sig.returnType = none) (h : b_J7_fill_d0a16_5_6 n x1 x3 x4 M = some M') : G p l e (rmD 1) s m args below meth c E 5 0 0 (QR below args s E 0 0 none M') 6 [(0, .ref (eA E 5)), (1, .long x1), (3, .int x3), (4, .int x4)] [] M := by
  induction n generalizing x1 x3 x4 M with
  | zero => cases h
  | succ n ih => exact gb_J7_fill_d0a16_5_6 hE C hr (fun _ _ _ _ => ih)  h
def bb_J7_fill_d0a16_5_0 (x1 : Int64) (M : Mm) : Option Mm := b_J7_fill_d0a16_5_6 FU x1 (0 : Int32) (10 : Int32) M
set_option maxHeartbeats 4000000 in
set_option maxRecDepth 100000 in
theorem gb_J7_fill_d0a16_5_0  {x1 : Int64} {M : Mm} {M' : Mm} (hE : Has shC (eH E)) (C : Cx RJ7 cJ7_fill_d0a16 5 p (rmD 1) s m args meth c E) (hr : meth.sig.returnType = none) (h : bb_J7_fill_d0a16_5_0 x1 M = some M') : G p l e (rmD 1) s m args below meth c E 5 0 0 (QR below args s E 0 0 none M') 0 [(0, .ref (eA E 5)), (1, .long x1)] [] M := by
  unfold bb_J7_fill_d0a16_5_0 at h
  refine G.iconst (v := (0 : Int32)) C dJ7_fill_d0a16_0 (by decide) ?_
  refine G.istore_n (L' := [(3, .int (0 : Int32)), (0, .ref (eA E 5)), (1, .long x1)]) C dJ7_fill_d0a16_1 rfl rfl (by decide) rfl ?_
  refine G.aload_n C 1 dJ7_fill_d0a16_2 rfl rfl ?_
  refine G.alen (v := (10 : Int32)) C (sc_5 hE) rfl (by decide) dJ7_fill_d0a16_3 ?_
  refine G.istore (L' := [(4, .int (10 : Int32)), (3, .int (0 : Int32)), (0, .ref (eA E 5)), (1, .long x1)]) C dJ7_fill_d0a16_4 rfl (by decide) rfl ?_
  exact G.sub [2, 3, 1, 0] rfl (g_J7_fill_d0a16_5_6 hE C hr  h)
def f_J7_fill_d0a16_5 (x1 : Int64) (M : Mm) : Option Mm := bb_J7_fill_d0a16_5_0 x1 M
theorem s_J7_fill_d0a16_5 {l : Launch} {E : Ev} {x1 : Int64} {M : Mm} {M' : Mm} (hE : Has shC (eH E)) (h : f_J7_fill_d0a16_5 x1 M = some M') : MetA l yJ7_fill_d0a16 cJ7_fill_d0a16 5 none 1 E [.ref (eA E 5), .long x1] M none M' := by
  refine MetA.of (by decide +kernel) (Nat.le_of_ble_eq_true rfl) ?_
  intro p e s m below meth c C hr hnm
  exact G.sub [0, 1] rfl (gb_J7_fill_d0a16_5_0 hE C hr  h)
def bb_J7_fill_53178_7_5 (k_5 : Int32 → Int32 → Int32 → Mm → Option Mm) (x1 : Int32) (x2 : Int32) (x3 : Int32) (M : Mm) : Option Mm := if x3 ≤ x2 then (some M) else (gd (inb x2 6) (ltv (wI M 7 (ix x2) x1) fun M_2 => ltv (x2 + (1 : Int32)) fun x2_3 => k_5 x1 x2_3 x3 M_2))
set_option maxHeartbeats 4000000 in
set_option maxRecDepth 100000 in
theorem gb_J7_fill_53178_7_5  {k_5 : Int32 → Int32 → Int32 → Mm → Option Mm} {x1 : Int32} {x2 : Int32} {x3 : Int32} {M : Mm} {M' : Mm} (hE : Has shC (eH E)) (C : Cx RJ7 cJ7_fill_53178 4 p (rmD 1) s m args meth c E) (hr : meth.sig.returnType = none) (hk_5 : ∀ (x1 : Int32) (x2 : Int32) (x3 : Int32) (M : Mm), k_5 x1 x2 x3 M = some M' → G p l e (rmD 1) s m args below meth c E 4 0 0 (QR below args s E 0 0 none M') 5 [(0, .ref (eA E 7)), (1, .int x1), (2, .int x2), (3, .int x3)] [] M) (h : bb_J7_fill_53178_7_5 k_5 x1 x2 x3 M = some M') : G p l e (rmD 1) s m args below meth c E 4 0 0 (QR below args s E 0 0 none M') 5 [(0, .ref (eA E 7)), (1, .int x1), (2, .int x2), (3, .int x3)] [] M := by
  unfold bb_J7_fill_53178_7_5 at h
  refine G.iload_n C 2 dJ7_fill_53178_5 rfl rfl ?_
  refine G.iload_n C 3 dJ7_fill_53178_6 rfl rfl ?_
  refine G.icmp_ge (tgt := 20) C dJ7_fill_53178_7 (by decide) (fun hc => ?_) (fun hc => ?_)
  · have h := it_t h hc
    cases h
    exact G.vret C hr dJ7_fill_53178_20
  · have h := it_f h hc
    refine G.aload_n C 0 dJ7_fill_53178_10 rfl rfl ?_
    refine G.iload_n C 2 dJ7_fill_53178_11 rfl rfl ?_
    refine G.iload_n C 1 dJ7_fill_53178_12 rfl rfl ?_
    obtain ⟨hg_1, h⟩ := gd_ex h
    obtain ⟨M_2, eM_2, h⟩ := ltv_ex h
    refine G.sI (j := (ix x2)) C (sc_7 hE) hg_1 rfl dJ7_fill_53178_13 eM_2 ?_
    obtain ⟨x2_3, ex2_3, h⟩ := ltv_ex h
    refine G.iinc (L' := [(2, .int x2_3), (0, .ref (eA E 7)), (1, .int x1), (3, .int x3)]) C 2 dJ7_fill_53178_14 rfl (ex2_3.trans rfl) (by decide) rfl ?_
    refine G.goto (tgt := 5) C dJ7_fill_53178_17 (by decide) ?_
    exact G.sub [1, 2, 0, 3] rfl (hk_5 _ _ _ _  h)
def b_J7_fill_53178_7_5 : Nat → Int32 → Int32 → Int32 → Mm → Option Mm
  | 0, _, _, _, _ => none
  | n + 1, x1, x2, x3, M => bb_J7_fill_53178_7_5 (b_J7_fill_53178_7_5 n) x1 x2 x3 M
set_option maxHeartbeats 4000000 in
theorem g_J7_fill_53178_7_5  {n : Nat} {x1 : Int32} {x2 : Int32} {x3 : Int32} {M : Mm} {M' : Mm} (hE : Has shC (eH E)) (C : Cx RJ7 cJ7_fill_53178 4 p (rmD 1) s m args meth c E) (hr : meth.sig.returnType = none) (h : b_J7_fill_53178_7_5 n x1 x2 x3 M = some M') : G p l e (rmD 1) s m args below meth c E 4 0 0 (QR below args s E 0 0 none M') 5 [(0, .ref (eA E 7)), (1, .int x1), (2, .int x2), (3, .int x3)] [] M := by
  induction n generalizing x1 x2 x3 M with
  | zero => cases h
  | succ n ih => exact gb_J7_fill_53178_7_5 hE C hr (fun _ _ _ _ => ih)  h
def bb_J7_fill_53178_7_0 (x1 : Int32) (M : Mm) : Option Mm := b_J7_fill_53178_7_5 FU x1 (0 : Int32) (6 : Int32) M
set_option maxHeartbeats 4000000 in
set_option maxRecDepth 100000 in
theorem gb_J7_fill_53178_7_0  {x1 : Int32} {M : Mm} {M' : Mm} (hE : Has shC (eH E)) (C : Cx RJ7 cJ7_fill_53178 4 p (rmD 1) s m args meth c E) (hr : meth.sig.returnType = none) (h : bb_J7_fill_53178_7_0 x1 M = some M') : G p l e (rmD 1) s m args below meth c E 4 0 0 (QR below args s E 0 0 none M') 0 [(0, .ref (eA E 7)), (1, .int x1)] [] M := by
  unfold bb_J7_fill_53178_7_0 at h
  refine G.iconst (v := (0 : Int32)) C dJ7_fill_53178_0 (by decide) ?_
  refine G.istore_n (L' := [(2, .int (0 : Int32)), (0, .ref (eA E 7)), (1, .int x1)]) C dJ7_fill_53178_1 rfl rfl (by decide) rfl ?_
  refine G.aload_n C 1 dJ7_fill_53178_2 rfl rfl ?_
  refine G.alen (v := (6 : Int32)) C (sc_7 hE) rfl (by decide) dJ7_fill_53178_3 ?_
  refine G.istore_n (L' := [(3, .int (6 : Int32)), (2, .int (0 : Int32)), (0, .ref (eA E 7)), (1, .int x1)]) C dJ7_fill_53178_4 rfl rfl (by decide) rfl ?_
  exact G.sub [2, 3, 1, 0] rfl (g_J7_fill_53178_7_5 hE C hr  h)
def f_J7_fill_53178_7 (x1 : Int32) (M : Mm) : Option Mm := bb_J7_fill_53178_7_0 x1 M
theorem s_J7_fill_53178_7 {l : Launch} {E : Ev} {x1 : Int32} {M : Mm} {M' : Mm} (hE : Has shC (eH E)) (h : f_J7_fill_53178_7 x1 M = some M') : MetA l yJ7_fill_53178 cJ7_fill_53178 4 none 1 E [.ref (eA E 7), .int x1] M none M' := by
  refine MetA.of (by decide +kernel) (Nat.le_of_ble_eq_true rfl) ?_
  intro p e s m below meth c C hr hnm
  exact G.sub [0, 1] rfl (gb_J7_fill_53178_7_0 hE C hr  h)
def bb_J7_fill_53178_8_5 (k_5 : Int32 → Int32 → Int32 → Mm → Option Mm) (x1 : Int32) (x2 : Int32) (x3 : Int32) (M : Mm) : Option Mm := if x3 ≤ x2 then (some M) else (gd (inb x2 10) (ltv (wI M 8 (ix x2) x1) fun M_2 => ltv (x2 + (1 : Int32)) fun x2_3 => k_5 x1 x2_3 x3 M_2))
set_option maxHeartbeats 4000000 in
set_option maxRecDepth 100000 in
theorem gb_J7_fill_53178_8_5  {k_5 : Int32 → Int32 → Int32 → Mm → Option Mm} {x1 : Int32} {x2 : Int32} {x3 : Int32} {M : Mm} {M' : Mm} (hE : Has shC (eH E)) (C : Cx RJ7 cJ7_fill_53178 4 p (rmD 1) s m args meth c E) (hr : meth.sig.returnType = none) (hk_5 : ∀ (x1 : Int32) (x2 : Int32) (x3 : Int32) (M : Mm), k_5 x1 x2 x3 M = some M' → G p l e (rmD 1) s m args below meth c E 4 0 0 (QR below args s E 0 0 none M') 5 [(0, .ref (eA E 8)), (1, .int x1), (2, .int x2), (3, .int x3)] [] M) (h : bb_J7_fill_53178_8_5 k_5 x1 x2 x3 M = some M') : G p l e (rmD 1) s m args below meth c E 4 0 0 (QR below args s E 0 0 none M') 5 [(0, .ref (eA E 8)), (1, .int x1), (2, .int x2), (3, .int x3)] [] M := by
  unfold bb_J7_fill_53178_8_5 at h
  refine G.iload_n C 2 dJ7_fill_53178_5 rfl rfl ?_
  refine G.iload_n C 3 dJ7_fill_53178_6 rfl rfl ?_
  refine G.icmp_ge (tgt := 20) C dJ7_fill_53178_7 (by decide) (fun hc => ?_) (fun hc => ?_)
  · have h := it_t h hc
    cases h
    exact G.vret C hr dJ7_fill_53178_20
  · have h := it_f h hc
    refine G.aload_n C 0 dJ7_fill_53178_10 rfl rfl ?_
    refine G.iload_n C 2 dJ7_fill_53178_11 rfl rfl ?_
    refine G.iload_n C 1 dJ7_fill_53178_12 rfl rfl ?_
    obtain ⟨hg_1, h⟩ := gd_ex h
    obtain ⟨M_2, eM_2, h⟩ := ltv_ex h
    refine G.sI (j := (ix x2)) C (sc_8 hE) hg_1 rfl dJ7_fill_53178_13 eM_2 ?_
    obtain ⟨x2_3, ex2_3, h⟩ := ltv_ex h
    refine G.iinc (L' := [(2, .int x2_3), (0, .ref (eA E 8)), (1, .int x1), (3, .int x3)]) C 2 dJ7_fill_53178_14 rfl (ex2_3.trans rfl) (by decide) rfl ?_
    refine G.goto (tgt := 5) C dJ7_fill_53178_17 (by decide) ?_
    exact G.sub [1, 2, 0, 3] rfl (hk_5 _ _ _ _  h)
def b_J7_fill_53178_8_5 : Nat → Int32 → Int32 → Int32 → Mm → Option Mm
  | 0, _, _, _, _ => none
  | n + 1, x1, x2, x3, M => bb_J7_fill_53178_8_5 (b_J7_fill_53178_8_5 n) x1 x2 x3 M
set_option maxHeartbeats 4000000 in
theorem g_J7_fill_53178_8_5  {n : Nat} {x1 : Int32} {x2 : Int32} {x3 : Int32} {M : Mm} {M' : Mm} (hE : Has shC (eH E)) (C : Cx RJ7 cJ7_fill_53178 4 p (rmD 1) s m args meth c E) (hr : meth.sig.returnType = none) (h : b_J7_fill_53178_8_5 n x1 x2 x3 M = some M') : G p l e (rmD 1) s m args below meth c E 4 0 0 (QR below args s E 0 0 none M') 5 [(0, .ref (eA E 8)), (1, .int x1), (2, .int x2), (3, .int x3)] [] M := by
  induction n generalizing x1 x2 x3 M with
  | zero => cases h
  | succ n ih => exact gb_J7_fill_53178_8_5 hE C hr (fun _ _ _ _ => ih)  h
def bb_J7_fill_53178_8_0 (x1 : Int32) (M : Mm) : Option Mm := b_J7_fill_53178_8_5 FU x1 (0 : Int32) (10 : Int32) M
set_option maxHeartbeats 4000000 in
set_option maxRecDepth 100000 in
theorem gb_J7_fill_53178_8_0  {x1 : Int32} {M : Mm} {M' : Mm} (hE : Has shC (eH E)) (C : Cx RJ7 cJ7_fill_53178 4 p (rmD 1) s m args meth c E) (hr : meth.sig.returnType = none) (h : bb_J7_fill_53178_8_0 x1 M = some M') : G p l e (rmD 1) s m args below meth c E 4 0 0 (QR below args s E 0 0 none M') 0 [(0, .ref (eA E 8)), (1, .int x1)] [] M := by
  unfold bb_J7_fill_53178_8_0 at h
  refine G.iconst (v := (0 : Int32)) C dJ7_fill_53178_0 (by decide) ?_
  refine G.istore_n (L' := [(2, .int (0 : Int32)), (0, .ref (eA E 8)), (1, .int x1)]) C dJ7_fill_53178_1 rfl rfl (by decide) rfl ?_
  refine G.aload_n C 1 dJ7_fill_53178_2 rfl rfl ?_
  refine G.alen (v := (10 : Int32)) C (sc_8 hE) rfl (by decide) dJ7_fill_53178_3 ?_
  refine G.istore_n (L' := [(3, .int (10 : Int32)), (2, .int (0 : Int32)), (0, .ref (eA E 8)), (1, .int x1)]) C dJ7_fill_53178_4 rfl rfl (by decide) rfl ?_
  exact G.sub [2, 3, 1, 0] rfl (g_J7_fill_53178_8_5 hE C hr  h)
def f_J7_fill_53178_8 (x1 : Int32) (M : Mm) : Option Mm := bb_J7_fill_53178_8_0 x1 M
theorem s_J7_fill_53178_8 {l : Launch} {E : Ev} {x1 : Int32} {M : Mm} {M' : Mm} (hE : Has shC (eH E)) (h : f_J7_fill_53178_8 x1 M = some M') : MetA l yJ7_fill_53178 cJ7_fill_53178 4 none 1 E [.ref (eA E 8), .int x1] M none M' := by
  refine MetA.of (by decide +kernel) (Nat.le_of_ble_eq_true rfl) ?_
  intro p e s m below meth c C hr hnm
  exact G.sub [0, 1] rfl (gb_J7_fill_53178_8_0 hE C hr  h)
def bb_X7_wipe_3_0  (M : Mm) : Option Mm := ltv (wI M 3 7 (0 : Int32)) fun M_1 => ltv (wI M_1 3 8 (0 : Int32)) fun M_2 => ltv (wI M_2 3 9 (0 : Int32)) fun M_3 => bd (f_J7_fill_d0a16_4 (0 : Int64) M_3) fun M_5 => bd (f_J7_fill_d0a16_5 (-1 : Int64) M_5) fun M_7 => bd (f_J7_fill_53178_7 (0 : Int32) M_7) fun M_9 => bd (f_J7_fill_53178_8 (4 : Int32) M_9) fun M_11 => some M_11
set_option maxHeartbeats 4000000 in
set_option maxRecDepth 100000 in
theorem gb_X7_wipe_3_0   {M : Mm} {M' : Mm} (hE : Has shC (eH E)) (C : Cx RX7 cX7_wipe 1 p (rmD 2) s m args meth c E) (hr : meth.sig.returnType = none) (h : bb_X7_wipe_3_0 M = some M') : G p l e (rmD 2) s m args below meth c E 1 0 0 (QR below args s E 0 0 none M') 0 [(0, .ref (eA E 3))] [] M := by
  unfold bb_X7_wipe_3_0 at h
  refine G.aload_n C 0 dX7_wipe_0 rfl rfl ?_
  refine G.iconst (v := (0 : Int32)) C dX7_wipe_1 (by decide) ?_
  obtain ⟨M_1, eM_1, h⟩ := ltv_ex h
  refine G.putI (k := 7) C k_X7 (sc_3 hE) rfl (by decide) tg_157 rfl rfl dX7_wipe_2 eM_1 ?_
  refine G.aload_n C 0 dX7_wipe_5 rfl rfl ?_
  refine G.iconst (v := (0 : Int32)) C dX7_wipe_6 (by decide) ?_
  obtain ⟨M_2, eM_2, h⟩ := ltv_ex h
  refine G.putI (k := 8) C k_X7 (sc_3 hE) rfl (by decide) tg_162 rfl rfl dX7_wipe_7 eM_2 ?_
  refine G.aload_n C 0 dX7_wipe_10 rfl rfl ?_
  refine G.iconst (v := (0 : Int32)) C dX7_wipe_11 (by decide) ?_
  obtain ⟨M_3, eM_3, h⟩ := ltv_ex h
  refine G.putI (k := 9) C k_X7 (sc_3 hE) rfl (by decide) tg_167 rfl rfl dX7_wipe_12 eM_3 ?_
  refine G.aload_n C 0 dX7_wipe_15 rfl rfl ?_
  refine G.getR (k := 0) C k_X7 (sc_3 hE) rfl (by decide) tg_136 dX7_wipe_16 ?_
  refine G.lconst (v := (0 : Int64)) C dX7_wipe_19 (by decide) ?_
  obtain ⟨M_5, hv_4, h⟩ := bd_ex h
  refine G.callS (rest := []) C (s_J7_fill_d0a16_4 hE  hv_4) ⟨tg_407, tg_99, ok_J7_fill_d0a16, Nat.le_of_ble_eq_true rfl, Nat.le_of_ble_eq_true rfl⟩ tg_405 tg_406 rfl (Nat.le_of_ble_eq_true rfl) dX7_wipe_20 ⟨Nat.le_refl 0, Nat.le_refl 0⟩ ?_
  refine G.aload_n C 0 dX7_wipe_23 rfl rfl ?_
  refine G.getR (k := 1) C k_X7 (sc_3 hE) rfl (by decide) tg_138 dX7_wipe_24 ?_
  refine G.ldc2 C tg_408 dX7_wipe_27 ?_
  obtain ⟨M_7, hv_6, h⟩ := bd_ex h
  refine G.callS (rest := []) C (s_J7_fill_d0a16_5 hE  hv_6) ⟨tg_407, tg_99, ok_J7_fill_d0a16, Nat.le_of_ble_eq_true rfl, Nat.le_of_ble_eq_true rfl⟩ tg_405 tg_406 rfl (Nat.le_of_ble_eq_true rfl) dX7_wipe_30 ⟨Nat.le_refl 0, Nat.le_refl 0⟩ ?_
  refine G.aload_n C 0 dX7_wipe_33 rfl rfl ?_
  refine G.getR (k := 3) C k_X7 (sc_3 hE) rfl (by decide) tg_142 dX7_wipe_34 ?_
  refine G.iconst (v := (0 : Int32)) C dX7_wipe_37 (by decide) ?_
  obtain ⟨M_9, hv_8, h⟩ := bd_ex h
  refine G.callS (rest := []) C (s_J7_fill_53178_7 hE  hv_8) ⟨tg_411, tg_99, ok_J7_fill_53178, Nat.le_of_ble_eq_true rfl, Nat.le_of_ble_eq_true rfl⟩ tg_409 tg_410 rfl (Nat.le_of_ble_eq_true rfl) dX7_wipe_38 ⟨Nat.le_refl 0, Nat.le_refl 0⟩ ?_
  refine G.aload_n C 0 dX7_wipe_41 rfl rfl ?_
  refine G.getR (k := 4) C k_X7 (sc_3 hE) rfl (by decide) tg_145 dX7_wipe_42 ?_
  refine G.iconst (v := (4 : Int32)) C dX7_wipe_45 (by decide) ?_
  obtain ⟨M_11, hv_10, h⟩ := bd_ex h
  refine G.callS (rest := []) C (s_J7_fill_53178_8 hE  hv_10) ⟨tg_411, tg_99, ok_J7_fill_53178, Nat.le_of_ble_eq_true rfl, Nat.le_of_ble_eq_true rfl⟩ tg_409 tg_410 rfl (Nat.le_of_ble_eq_true rfl) dX7_wipe_46 ⟨Nat.le_refl 0, Nat.le_refl 0⟩ ?_
  cases h
  exact G.vret C hr dX7_wipe_49
def f_X7_wipe_3  (M : Mm) : Option Mm := bb_X7_wipe_3_0 M
theorem s_X7_wipe_3 {l : Launch} {E : Ev}  {M : Mm} {M' : Mm} (hE : Has shC (eH E)) (h : f_X7_wipe_3 M = some M') : MetA l yX7_wipe cX7_wipe 1 none 2 E [.ref (eA E 3)] M none M' := by
  refine MetA.of (by decide +kernel) (Nat.le_of_ble_eq_true rfl) ?_
  intro p e s m below meth c C hr hnm
  exact G.sub [0] rfl (gb_X7_wipe_3_0 hE C hr  h)
def bb_X8_here_1_0  (M : Mm) : Option Int32 := if (M.1 1 4) < 0 then (some (-1 : Int32)) else (if (M.1 1 3) ≤ (M.1 1 4) then (some (-1 : Int32)) else (gd (inb (M.1 1 4) 500) (some (M.1 2 (ix (M.1 1 4))))))
set_option maxHeartbeats 4000000 in
set_option maxRecDepth 100000 in
theorem gb_X8_here_1_0   {M : Mm} {v : Int32} (hE : Has shC (eH E)) (C : Cx RX8 cX8_here 1 p (rmD 1) s m args meth c E) (hr : meth.sig.returnType = (some .int)) (h : bb_X8_here_1_0 M = some v) : G p l e (rmD 1) s m args below meth c E 1 0 0 (QR below args s E 0 0 (some (.int v)) M) 0 [(0, .ref (eA E 1))] [] M := by
  unfold bb_X8_here_1_0 at h
  refine G.aload_n C 0 dX8_here_0 rfl rfl ?_
  refine G.getI (k := 4) C k_X8 (sc_1 hE) rfl (by decide) tg_200 dX8_here_1 ?_
  refine G.if_lt (tgt := 30) C dX8_here_4 (by decide) (fun hc => ?_) (fun hc => ?_)
  · have h := it_t h hc
    refine G.iconst (v := (-1 : Int32)) C dX8_here_30 (by decide) ?_
    cases h
    exact G.iret C hr dX8_here_31
  · have h := it_f h hc
    refine G.aload_n C 0 dX8_here_7 rfl rfl ?_
    refine G.getI (k := 4) C k_X8 (sc_1 hE) rfl (by decide) tg_200 dX8_here_8 ?_
    refine G.aload_n C 0 dX8_here_11 rfl rfl ?_
    refine G.getI (k := 3) C k_X8 (sc_1 hE) rfl (by decide) tg_199 dX8_here_12 ?_
    refine G.icmp_ge (tgt := 30) C dX8_here_15 (by decide) (fun hc => ?_) (fun hc => ?_)
    · have h := it_t h hc
      refine G.iconst (v := (-1 : Int32)) C dX8_here_30 (by decide) ?_
      cases h
      exact G.iret C hr dX8_here_31
    · have h := it_f h hc
      refine G.aload_n C 0 dX8_here_18 rfl rfl ?_
      refine G.getR (k := 0) C k_X8 (sc_1 hE) rfl (by decide) tg_194 dX8_here_19 ?_
      refine G.aload_n C 0 dX8_here_22 rfl rfl ?_
      refine G.getI (k := 4) C k_X8 (sc_1 hE) rfl (by decide) tg_200 dX8_here_23 ?_
      obtain ⟨hg_1, h⟩ := gd_ex h
      refine G.aI (j := ix (M.1 1 4)) C (sc_2 hE) hg_1 rfl dX8_here_26 ?_
      refine G.goto (tgt := 31) C dX8_here_27 (by decide) ?_
      cases h
      exact G.iret C hr dX8_here_31
def f_X8_here_1  (M : Mm) : Option Int32 := bb_X8_here_1_0 M
theorem s_X8_here_1 {l : Launch} {E : Ev}  {M : Mm} {v : Int32} (hE : Has shC (eH E)) (h : f_X8_here_1 M = some v) : MetA l yX8_here cX8_here 1 (some .int) 1 E [.ref (eA E 1)] M (some (.int v)) M := by
  refine MetA.of (by decide +kernel) (Nat.le_of_ble_eq_true rfl) ?_
  intro p e s m below meth c C hr hnm
  exact G.sub [0] rfl (gb_X8_here_1_0 hE C hr  h)
def bb_X8_skipBlanks_1_2 (k_2 : Int32 → Mm → Option Mm) (x1 : Int32) (M : Mm) : Option Mm := if (500 : Int32) ≤ x1 then (some M) else (bd (f_X8_here_1 M) fun v_2 => if v_2 = (32 : Int32) then (ltv (wI M 1 4 ((M.1 1 4) + (1 : Int32))) fun M_3 => ltv (x1 + (1 : Int32)) fun x1_4 => k_2 x1_4 M_3) else (some M))
set_option maxHeartbeats 4000000 in
set_option maxRecDepth 100000 in
theorem gb_X8_skipBlanks_1_2  {k_2 : Int32 → Mm → Option Mm} {x1 : Int32} {M : Mm} {M' : Mm} (hE : Has shC (eH E)) (C : Cx RX8 cX8_skipBlanks 2 p (rmD 2) s m args meth c E) (hr : meth.sig.returnType = none) (hk_2 : ∀ (x1 : Int32) (M : Mm), k_2 x1 M = some M' → G p l e (rmD 2) s m args below meth c E 2 0 0 (QR below args s E 0 0 none M') 2 [(0, .ref (eA E 1)), (1, .int x1)] [] M) (h : bb_X8_skipBlanks_1_2 k_2 x1 M = some M') : G p l e (rmD 2) s m args below meth c E 2 0 0 (QR below args s E 0 0 none M') 2 [(0, .ref (eA E 1)), (1, .int x1)] [] M := by
  unfold bb_X8_skipBlanks_1_2 at h
  refine G.iload_n C 1 dX8_skipBlanks_2 rfl rfl ?_
  refine G.sipush (v := (500 : Int32)) C dX8_skipBlanks_3 (by decide) ?_
  refine G.icmp_ge (tgt := 34) C dX8_skipBlanks_6 (by decide) (fun hc => ?_) (fun hc => ?_)
  · have h := it_t h hc
    cases h
    exact G.vret C hr dX8_skipBlanks_34
  · have h := it_f h hc
    refine G.aload_n C 0 dX8_skipBlanks_9 rfl rfl ?_
    obtain ⟨v_2, hv_1, h⟩ := bd_ex h
    refine G.callV (rest := []) C (s_X8_here_1 hE  hv_1) ⟨tg_723, tg_91, ok_X8_here, Nat.le_of_ble_eq_true rfl, Nat.le_of_ble_eq_true rfl⟩ tg_720 tg_722 tg_8 (sc_1 hE) rfl rfl (Nat.le_of_ble_eq_true rfl) dX8_skipBlanks_10 ⟨Nat.le_refl 0, Nat.le_refl 0⟩ ?_
    refine G.bipush (v := (32 : Int32)) C dX8_skipBlanks_13 (by decide) ?_
    refine G.icmp_ne (tgt := 34) C dX8_skipBlanks_15 (by decide) (fun hc => ?_) (fun hc => ?_)
    · have h := it_f h hc
      cases h
      exact G.vret C hr dX8_skipBlanks_34
    · have h := it_t h hc
      refine G.aload_n C 0 dX8_skipBlanks_18 rfl rfl ?_
      refine G.dup C dX8_skipBlanks_19 rfl ?_
      refine G.getI (k := 4) C k_X8 (sc_1 hE) rfl (by decide) tg_200 dX8_skipBlanks_20 ?_
      refine G.iconst (v := (1 : Int32)) C dX8_skipBlanks_23 (by decide) ?_
      refine G.iadd C dX8_skipBlanks_24 ?_
      obtain ⟨M_3, eM_3, h⟩ := ltv_ex h
      refine G.putI (k := 4) C k_X8 (sc_1 hE) rfl (by decide) tg_200 rfl rfl dX8_skipBlanks_25 eM_3 ?_
      obtain ⟨x1_4, ex1_4, h⟩ := ltv_ex h
      refine G.iinc (L' := [(1, .int x1_4), (0, .ref (eA E 1))]) C 1 dX8_skipBlanks_28 rfl (ex1_4.trans rfl) (by decide) rfl ?_
      refine G.goto (tgt := 2) C dX8_skipBlanks_31 (by decide) ?_
      exact G.sub [1, 0] rfl (hk_2 _ _  h)
def b_X8_skipBlanks_1_2 : Nat → Int32 → Mm → Option Mm
  | 0, _, _ => none
  | n + 1, x1, M => bb_X8_skipBlanks_1_2 (b_X8_skipBlanks_1_2 n) x1 M
set_option maxHeartbeats 4000000 in
theorem g_X8_skipBlanks_1_2  {n : Nat} {x1 : Int32} {M : Mm} {M' : Mm} (hE : Has shC (eH E)) (C : Cx RX8 cX8_skipBlanks 2 p (rmD 2) s m args meth c E) (hr : meth.sig.returnType = none) (h : b_X8_skipBlanks_1_2 n x1 M = some M') : G p l e (rmD 2) s m args below meth c E 2 0 0 (QR below args s E 0 0 none M') 2 [(0, .ref (eA E 1)), (1, .int x1)] [] M := by
  induction n generalizing x1 M with
  | zero => cases h
  | succ n ih => exact gb_X8_skipBlanks_1_2 hE C hr (fun _ _ => ih)  h
def bb_X8_skipBlanks_1_0  (M : Mm) : Option Mm := b_X8_skipBlanks_1_2 FU (0 : Int32) M
set_option maxHeartbeats 4000000 in
set_option maxRecDepth 100000 in
theorem gb_X8_skipBlanks_1_0   {M : Mm} {M' : Mm} (hE : Has shC (eH E)) (C : Cx RX8 cX8_skipBlanks 2 p (rmD 2) s m args meth c E) (hr : meth.sig.returnType = none) (h : bb_X8_skipBlanks_1_0 M = some M') : G p l e (rmD 2) s m args below meth c E 2 0 0 (QR below args s E 0 0 none M') 0 [(0, .ref (eA E 1))] [] M := by
  unfold bb_X8_skipBlanks_1_0 at h
  refine G.iconst (v := (0 : Int32)) C dX8_skipBlanks_0 (by decide) ?_
  refine G.istore_n (L' := [(1, .int (0 : Int32)), (0, .ref (eA E 1))]) C dX8_skipBlanks_1 rfl rfl (by decide) rfl ?_
  exact G.sub [1, 0] rfl (g_X8_skipBlanks_1_2 hE C hr  h)
def f_X8_skipBlanks_1  (M : Mm) : Option Mm := bb_X8_skipBlanks_1_0 M
theorem s_X8_skipBlanks_1 {l : Launch} {E : Ev}  {M : Mm} {M' : Mm} (hE : Has shC (eH E)) (h : f_X8_skipBlanks_1 M = some M') : MetA l yX8_skipBlanks cX8_skipBlanks 2 none 2 E [.ref (eA E 1)] M none M' := by
  refine MetA.of (by decide +kernel) (Nat.le_of_ble_eq_true rfl) ?_
  intro p e s m below meth c C hr hnm
  exact G.sub [0] rfl (gb_X8_skipBlanks_1_0 hE C hr  h)
def bb_X8_stands_1_s0_21 (k_21 : Int32 → Int32 → Mm → Option Int32) (x2 : Int32) (x3 : Int32) (M : Mm) : Option Int32 := if (6 : Int32) ≤ x3 then (some (1 : Int32)) else (if (M.1 1 3) ≤ (x2 + x3) then (some (1 : Int32)) else (gd (inb (x2 + x3) 500) (gd (inb x3 6) (if (M.1 2 (ix (x2 + x3))) = (strC 0 (ix x3)) then (ltv (x3 + (1 : Int32)) fun x3_3 => k_21 x2 x3_3 M) else (some (0 : Int32))))))
set_option maxHeartbeats 4000000 in
set_option maxRecDepth 100000 in
theorem gb_X8_stands_1_s0_21  {k_21 : Int32 → Int32 → Mm → Option Int32} {x2 : Int32} {x3 : Int32} {M : Mm} {v : Int32} (hE : Has shC (eH E)) (C : Cx RX8 cX8_stands 4 p (rmD 5) s m args meth c E) (hr : meth.sig.returnType = (some .boolean)) (hk_21 : ∀ (x2 : Int32) (x3 : Int32) (M : Mm), k_21 x2 x3 M = some v → G p l e (rmD 5) s m args below meth c E 4 0 0 (QR below args s E 0 0 (some (.int v)) M) 21 [(0, .ref (eA E 1)), (1, .ref (eX E 1)), (2, .int x2), (3, .int x3)] [] M) (h : bb_X8_stands_1_s0_21 k_21 x2 x3 M = some v) : G p l e (rmD 5) s m args below meth c E 4 0 0 (QR below args s E 0 0 (some (.int v)) M) 21 [(0, .ref (eA E 1)), (1, .ref (eX E 1)), (2, .int x2), (3, .int x3)] [] M := by
  unfold bb_X8_stands_1_s0_21 at h
  refine G.iload_n C 3 dX8_stands_21 rfl rfl ?_
  refine G.aload_n C 1 dX8_stands_22 rfl rfl ?_
  refine G.slen (rest := [.int x3]) (v := (6 : Int32)) 0 C (by decide) (by decide) tg_737 (Nat.le_of_ble_eq_true rfl) dX8_stands_23 ⟨Nat.le_of_ble_eq_true rfl, Nat.le_of_ble_eq_true rfl⟩ ⟨Nat.le_refl 0, Nat.le_refl 0⟩ ?_
  refine G.icmp_ge (tgt := 63) C dX8_stands_26 (by decide) (fun hc => ?_) (fun hc => ?_)
  · have h := it_t h hc
    refine G.iconst (v := (1 : Int32)) C dX8_stands_63 (by decide) ?_
    cases h
    exact G.zret C hr rfl dX8_stands_64
  · have h := it_f h hc
    refine G.iload_n C 2 dX8_stands_29 rfl rfl ?_
    refine G.iload_n C 3 dX8_stands_30 rfl rfl ?_
    refine G.iadd C dX8_stands_31 ?_
    refine G.aload_n C 0 dX8_stands_32 rfl rfl ?_
    refine G.getI (k := 3) C k_X8 (sc_1 hE) rfl (by decide) tg_199 dX8_stands_33 ?_
    refine G.icmp_ge (tgt := 63) C dX8_stands_36 (by decide) (fun hc => ?_) (fun hc => ?_)
    · have h := it_t h hc
      refine G.iconst (v := (1 : Int32)) C dX8_stands_63 (by decide) ?_
      cases h
      exact G.zret C hr rfl dX8_stands_64
    · have h := it_f h hc
      refine G.aload_n C 0 dX8_stands_39 rfl rfl ?_
      refine G.getR (k := 0) C k_X8 (sc_1 hE) rfl (by decide) tg_194 dX8_stands_40 ?_
      refine G.iload_n C 2 dX8_stands_43 rfl rfl ?_
      refine G.iload_n C 3 dX8_stands_44 rfl rfl ?_
      refine G.iadd C dX8_stands_45 ?_
      obtain ⟨hg_1, h⟩ := gd_ex h
      refine G.aI (j := ix (x2 + x3)) C (sc_2 hE) hg_1 rfl dX8_stands_46 ?_
      refine G.aload_n C 1 dX8_stands_47 rfl rfl ?_
      refine G.iload_n C 3 dX8_stands_48 rfl rfl ?_
      obtain ⟨hg_2, h⟩ := gd_ex h
      refine G.schr (rest := [.int (M.1 2 (ix (x2 + x3)))]) 0 C (by decide) hg_2 tg_747 (Nat.le_of_ble_eq_true rfl) dX8_stands_49 ⟨Nat.le_of_ble_eq_true rfl, Nat.le_of_ble_eq_true rfl⟩ ⟨Nat.le_refl 0, Nat.le_refl 0⟩ ?_
      refine G.icmp_eq (tgt := 57) C dX8_stands_52 (by decide) (fun hc => ?_) (fun hc => ?_)
      · have h := it_t h hc
        obtain ⟨x3_3, ex3_3, h⟩ := ltv_ex h
        refine G.iinc (L' := [(3, .int x3_3), (0, .ref (eA E 1)), (1, .ref (eX E 1)), (2, .int x2)]) C 3 dX8_stands_57 rfl (ex3_3.trans rfl) (by decide) rfl ?_
        refine G.goto (tgt := 21) C dX8_stands_60 (by decide) ?_
        exact G.sub [1, 2, 3, 0] rfl (hk_21 _ _ _  h)
      · have h := it_f h hc
        refine G.iconst (v := (0 : Int32)) C dX8_stands_55 (by decide) ?_
        cases h
        exact G.zret C hr rfl dX8_stands_56
def b_X8_stands_1_s0_21 : Nat → Int32 → Int32 → Mm → Option Int32
  | 0, _, _, _ => none
  | n + 1, x2, x3, M => bb_X8_stands_1_s0_21 (b_X8_stands_1_s0_21 n) x2 x3 M
set_option maxHeartbeats 4000000 in
theorem g_X8_stands_1_s0_21  {n : Nat} {x2 : Int32} {x3 : Int32} {M : Mm} {v : Int32} (hE : Has shC (eH E)) (C : Cx RX8 cX8_stands 4 p (rmD 5) s m args meth c E) (hr : meth.sig.returnType = (some .boolean)) (h : b_X8_stands_1_s0_21 n x2 x3 M = some v) : G p l e (rmD 5) s m args below meth c E 4 0 0 (QR below args s E 0 0 (some (.int v)) M) 21 [(0, .ref (eA E 1)), (1, .ref (eX E 1)), (2, .int x2), (3, .int x3)] [] M := by
  induction n generalizing x2 x3 M with
  | zero => cases h
  | succ n ih => exact gb_X8_stands_1_s0_21 hE C hr (fun _ _ _ => ih)  h
def bb_X8_stands_1_s0_0 (x2 : Int32) (M : Mm) : Option Int32 := if x2 < 0 then (some (0 : Int32)) else (if ((M.1 1 4) - x2) = (6 : Int32) then (b_X8_stands_1_s0_21 FU x2 (0 : Int32) M) else (some (0 : Int32)))
set_option maxHeartbeats 4000000 in
set_option maxRecDepth 100000 in
theorem gb_X8_stands_1_s0_0  {x2 : Int32} {M : Mm} {v : Int32} (hE : Has shC (eH E)) (C : Cx RX8 cX8_stands 4 p (rmD 5) s m args meth c E) (hr : meth.sig.returnType = (some .boolean)) (h : bb_X8_stands_1_s0_0 x2 M = some v) : G p l e (rmD 5) s m args below meth c E 4 0 0 (QR below args s E 0 0 (some (.int v)) M) 0 [(0, .ref (eA E 1)), (1, .ref (eX E 1)), (2, .int x2)] [] M := by
  unfold bb_X8_stands_1_s0_0 at h
  refine G.iload_n C 2 dX8_stands_0 rfl rfl ?_
  refine G.if_lt (tgt := 17) C dX8_stands_1 (by decide) (fun hc => ?_) (fun hc => ?_)
  · have h := it_t h hc
    refine G.iconst (v := (0 : Int32)) C dX8_stands_17 (by decide) ?_
    cases h
    exact G.zret C hr rfl dX8_stands_18
  · have h := it_f h hc
    refine G.aload_n C 0 dX8_stands_4 rfl rfl ?_
    refine G.getI (k := 4) C k_X8 (sc_1 hE) rfl (by decide) tg_200 dX8_stands_5 ?_
    refine G.iload_n C 2 dX8_stands_8 rfl rfl ?_
    refine G.isub C dX8_stands_9 ?_
    refine G.aload_n C 1 dX8_stands_10 rfl rfl ?_
    refine G.slen (rest := [.int ((M.1 1 4) - x2)]) (v := (6 : Int32)) 0 C (by decide) (by decide) tg_737 (Nat.le_of_ble_eq_true rfl) dX8_stands_11 ⟨Nat.le_of_ble_eq_true rfl, Nat.le_of_ble_eq_true rfl⟩ ⟨Nat.le_refl 0, Nat.le_refl 0⟩ ?_
    refine G.icmp_eq (tgt := 19) C dX8_stands_14 (by decide) (fun hc => ?_) (fun hc => ?_)
    · have h := it_t h hc
      refine G.iconst (v := (0 : Int32)) C dX8_stands_19 (by decide) ?_
      refine G.istore_n (L' := [(3, .int (0 : Int32)), (0, .ref (eA E 1)), (1, .ref (eX E 1)), (2, .int x2)]) C dX8_stands_20 rfl rfl (by decide) rfl ?_
      exact G.sub [1, 2, 3, 0] rfl (g_X8_stands_1_s0_21 hE C hr  h)
    · have h := it_f h hc
      refine G.iconst (v := (0 : Int32)) C dX8_stands_17 (by decide) ?_
      cases h
      exact G.zret C hr rfl dX8_stands_18
def f_X8_stands_1_s0 (x2 : Int32) (M : Mm) : Option Int32 := bb_X8_stands_1_s0_0 x2 M
theorem s_X8_stands_1_s0 {l : Launch} {E : Ev} {x2 : Int32} {M : Mm} {v : Int32} (hE : Has shC (eH E)) (h : f_X8_stands_1_s0 x2 M = some v) : MetA l yX8_stands cX8_stands 4 (some .boolean) 5 E [.ref (eA E 1), .ref (eX E 1), .int x2] M (some (.int v)) M := by
  refine MetA.of (by decide +kernel) (Nat.le_of_ble_eq_true rfl) ?_
  intro p e s m below meth c C hr hnm
  exact G.sub [0, 1, 2] rfl (gb_X8_stands_1_s0_0 hE C hr  h)
def bb_X8_stands_1_s1_21 (k_21 : Int32 → Int32 → Mm → Option Int32) (x2 : Int32) (x3 : Int32) (M : Mm) : Option Int32 := if (6 : Int32) ≤ x3 then (some (1 : Int32)) else (if (M.1 1 3) ≤ (x2 + x3) then (some (1 : Int32)) else (gd (inb (x2 + x3) 500) (gd (inb x3 6) (if (M.1 2 (ix (x2 + x3))) = (strC 1 (ix x3)) then (ltv (x3 + (1 : Int32)) fun x3_3 => k_21 x2 x3_3 M) else (some (0 : Int32))))))
set_option maxHeartbeats 4000000 in
set_option maxRecDepth 100000 in
theorem gb_X8_stands_1_s1_21  {k_21 : Int32 → Int32 → Mm → Option Int32} {x2 : Int32} {x3 : Int32} {M : Mm} {v : Int32} (hE : Has shC (eH E)) (C : Cx RX8 cX8_stands 4 p (rmD 5) s m args meth c E) (hr : meth.sig.returnType = (some .boolean)) (hk_21 : ∀ (x2 : Int32) (x3 : Int32) (M : Mm), k_21 x2 x3 M = some v → G p l e (rmD 5) s m args below meth c E 4 0 0 (QR below args s E 0 0 (some (.int v)) M) 21 [(0, .ref (eA E 1)), (1, .ref (eX E 2)), (2, .int x2), (3, .int x3)] [] M) (h : bb_X8_stands_1_s1_21 k_21 x2 x3 M = some v) : G p l e (rmD 5) s m args below meth c E 4 0 0 (QR below args s E 0 0 (some (.int v)) M) 21 [(0, .ref (eA E 1)), (1, .ref (eX E 2)), (2, .int x2), (3, .int x3)] [] M := by
  unfold bb_X8_stands_1_s1_21 at h
  refine G.iload_n C 3 dX8_stands_21 rfl rfl ?_
  refine G.aload_n C 1 dX8_stands_22 rfl rfl ?_
  refine G.slen (rest := [.int x3]) (v := (6 : Int32)) 1 C (by decide) (by decide) tg_737 (Nat.le_of_ble_eq_true rfl) dX8_stands_23 ⟨Nat.le_of_ble_eq_true rfl, Nat.le_of_ble_eq_true rfl⟩ ⟨Nat.le_refl 0, Nat.le_refl 0⟩ ?_
  refine G.icmp_ge (tgt := 63) C dX8_stands_26 (by decide) (fun hc => ?_) (fun hc => ?_)
  · have h := it_t h hc
    refine G.iconst (v := (1 : Int32)) C dX8_stands_63 (by decide) ?_
    cases h
    exact G.zret C hr rfl dX8_stands_64
  · have h := it_f h hc
    refine G.iload_n C 2 dX8_stands_29 rfl rfl ?_
    refine G.iload_n C 3 dX8_stands_30 rfl rfl ?_
    refine G.iadd C dX8_stands_31 ?_
    refine G.aload_n C 0 dX8_stands_32 rfl rfl ?_
    refine G.getI (k := 3) C k_X8 (sc_1 hE) rfl (by decide) tg_199 dX8_stands_33 ?_
    refine G.icmp_ge (tgt := 63) C dX8_stands_36 (by decide) (fun hc => ?_) (fun hc => ?_)
    · have h := it_t h hc
      refine G.iconst (v := (1 : Int32)) C dX8_stands_63 (by decide) ?_
      cases h
      exact G.zret C hr rfl dX8_stands_64
    · have h := it_f h hc
      refine G.aload_n C 0 dX8_stands_39 rfl rfl ?_
      refine G.getR (k := 0) C k_X8 (sc_1 hE) rfl (by decide) tg_194 dX8_stands_40 ?_
      refine G.iload_n C 2 dX8_stands_43 rfl rfl ?_
      refine G.iload_n C 3 dX8_stands_44 rfl rfl ?_
      refine G.iadd C dX8_stands_45 ?_
      obtain ⟨hg_1, h⟩ := gd_ex h
      refine G.aI (j := ix (x2 + x3)) C (sc_2 hE) hg_1 rfl dX8_stands_46 ?_
      refine G.aload_n C 1 dX8_stands_47 rfl rfl ?_
      refine G.iload_n C 3 dX8_stands_48 rfl rfl ?_
      obtain ⟨hg_2, h⟩ := gd_ex h
      refine G.schr (rest := [.int (M.1 2 (ix (x2 + x3)))]) 1 C (by decide) hg_2 tg_747 (Nat.le_of_ble_eq_true rfl) dX8_stands_49 ⟨Nat.le_of_ble_eq_true rfl, Nat.le_of_ble_eq_true rfl⟩ ⟨Nat.le_refl 0, Nat.le_refl 0⟩ ?_
      refine G.icmp_eq (tgt := 57) C dX8_stands_52 (by decide) (fun hc => ?_) (fun hc => ?_)
      · have h := it_t h hc
        obtain ⟨x3_3, ex3_3, h⟩ := ltv_ex h
        refine G.iinc (L' := [(3, .int x3_3), (0, .ref (eA E 1)), (1, .ref (eX E 2)), (2, .int x2)]) C 3 dX8_stands_57 rfl (ex3_3.trans rfl) (by decide) rfl ?_
        refine G.goto (tgt := 21) C dX8_stands_60 (by decide) ?_
        exact G.sub [1, 2, 3, 0] rfl (hk_21 _ _ _  h)
      · have h := it_f h hc
        refine G.iconst (v := (0 : Int32)) C dX8_stands_55 (by decide) ?_
        cases h
        exact G.zret C hr rfl dX8_stands_56
def b_X8_stands_1_s1_21 : Nat → Int32 → Int32 → Mm → Option Int32
  | 0, _, _, _ => none
  | n + 1, x2, x3, M => bb_X8_stands_1_s1_21 (b_X8_stands_1_s1_21 n) x2 x3 M
set_option maxHeartbeats 4000000 in
theorem g_X8_stands_1_s1_21  {n : Nat} {x2 : Int32} {x3 : Int32} {M : Mm} {v : Int32} (hE : Has shC (eH E)) (C : Cx RX8 cX8_stands 4 p (rmD 5) s m args meth c E) (hr : meth.sig.returnType = (some .boolean)) (h : b_X8_stands_1_s1_21 n x2 x3 M = some v) : G p l e (rmD 5) s m args below meth c E 4 0 0 (QR below args s E 0 0 (some (.int v)) M) 21 [(0, .ref (eA E 1)), (1, .ref (eX E 2)), (2, .int x2), (3, .int x3)] [] M := by
  induction n generalizing x2 x3 M with
  | zero => cases h
  | succ n ih => exact gb_X8_stands_1_s1_21 hE C hr (fun _ _ _ => ih)  h
def bb_X8_stands_1_s1_0 (x2 : Int32) (M : Mm) : Option Int32 := if x2 < 0 then (some (0 : Int32)) else (if ((M.1 1 4) - x2) = (6 : Int32) then (b_X8_stands_1_s1_21 FU x2 (0 : Int32) M) else (some (0 : Int32)))
set_option maxHeartbeats 4000000 in
set_option maxRecDepth 100000 in
theorem gb_X8_stands_1_s1_0  {x2 : Int32} {M : Mm} {v : Int32} (hE : Has shC (eH E)) (C : Cx RX8 cX8_stands 4 p (rmD 5) s m args meth c E) (hr : meth.sig.returnType = (some .boolean)) (h : bb_X8_stands_1_s1_0 x2 M = some v) : G p l e (rmD 5) s m args below meth c E 4 0 0 (QR below args s E 0 0 (some (.int v)) M) 0 [(0, .ref (eA E 1)), (1, .ref (eX E 2)), (2, .int x2)] [] M := by
  unfold bb_X8_stands_1_s1_0 at h
  refine G.iload_n C 2 dX8_stands_0 rfl rfl ?_
  refine G.if_lt (tgt := 17) C dX8_stands_1 (by decide) (fun hc => ?_) (fun hc => ?_)
  · have h := it_t h hc
    refine G.iconst (v := (0 : Int32)) C dX8_stands_17 (by decide) ?_
    cases h
    exact G.zret C hr rfl dX8_stands_18
  · have h := it_f h hc
    refine G.aload_n C 0 dX8_stands_4 rfl rfl ?_
    refine G.getI (k := 4) C k_X8 (sc_1 hE) rfl (by decide) tg_200 dX8_stands_5 ?_
    refine G.iload_n C 2 dX8_stands_8 rfl rfl ?_
    refine G.isub C dX8_stands_9 ?_
    refine G.aload_n C 1 dX8_stands_10 rfl rfl ?_
    refine G.slen (rest := [.int ((M.1 1 4) - x2)]) (v := (6 : Int32)) 1 C (by decide) (by decide) tg_737 (Nat.le_of_ble_eq_true rfl) dX8_stands_11 ⟨Nat.le_of_ble_eq_true rfl, Nat.le_of_ble_eq_true rfl⟩ ⟨Nat.le_refl 0, Nat.le_refl 0⟩ ?_
    refine G.icmp_eq (tgt := 19) C dX8_stands_14 (by decide) (fun hc => ?_) (fun hc => ?_)
    · have h := it_t h hc
      refine G.iconst (v := (0 : Int32)) C dX8_stands_19 (by decide) ?_
      refine G.istore_n (L' := [(3, .int (0 : Int32)), (0, .ref (eA E 1)), (1, .ref (eX E 2)), (2, .int x2)]) C dX8_stands_20 rfl rfl (by decide) rfl ?_
      exact G.sub [1, 2, 3, 0] rfl (g_X8_stands_1_s1_21 hE C hr  h)
    · have h := it_f h hc
      refine G.iconst (v := (0 : Int32)) C dX8_stands_17 (by decide) ?_
      cases h
      exact G.zret C hr rfl dX8_stands_18
def f_X8_stands_1_s1 (x2 : Int32) (M : Mm) : Option Int32 := bb_X8_stands_1_s1_0 x2 M
theorem s_X8_stands_1_s1 {l : Launch} {E : Ev} {x2 : Int32} {M : Mm} {v : Int32} (hE : Has shC (eH E)) (h : f_X8_stands_1_s1 x2 M = some v) : MetA l yX8_stands cX8_stands 4 (some .boolean) 5 E [.ref (eA E 1), .ref (eX E 2), .int x2] M (some (.int v)) M := by
  refine MetA.of (by decide +kernel) (Nat.le_of_ble_eq_true rfl) ?_
  intro p e s m below meth c C hr hnm
  exact G.sub [0, 1, 2] rfl (gb_X8_stands_1_s1_0 hE C hr  h)
def bb_X8_stands_1_s2_21 (k_21 : Int32 → Int32 → Mm → Option Int32) (x2 : Int32) (x3 : Int32) (M : Mm) : Option Int32 := if (6 : Int32) ≤ x3 then (some (1 : Int32)) else (if (M.1 1 3) ≤ (x2 + x3) then (some (1 : Int32)) else (gd (inb (x2 + x3) 500) (gd (inb x3 6) (if (M.1 2 (ix (x2 + x3))) = (strC 2 (ix x3)) then (ltv (x3 + (1 : Int32)) fun x3_3 => k_21 x2 x3_3 M) else (some (0 : Int32))))))
set_option maxHeartbeats 4000000 in
set_option maxRecDepth 100000 in
theorem gb_X8_stands_1_s2_21  {k_21 : Int32 → Int32 → Mm → Option Int32} {x2 : Int32} {x3 : Int32} {M : Mm} {v : Int32} (hE : Has shC (eH E)) (C : Cx RX8 cX8_stands 4 p (rmD 5) s m args meth c E) (hr : meth.sig.returnType = (some .boolean)) (hk_21 : ∀ (x2 : Int32) (x3 : Int32) (M : Mm), k_21 x2 x3 M = some v → G p l e (rmD 5) s m args below meth c E 4 0 0 (QR below args s E 0 0 (some (.int v)) M) 21 [(0, .ref (eA E 1)), (1, .ref (eX E 3)), (2, .int x2), (3, .int x3)] [] M) (h : bb_X8_stands_1_s2_21 k_21 x2 x3 M = some v) : G p l e (rmD 5) s m args below meth c E 4 0 0 (QR below args s E 0 0 (some (.int v)) M) 21 [(0, .ref (eA E 1)), (1, .ref (eX E 3)), (2, .int x2), (3, .int x3)] [] M := by
  unfold bb_X8_stands_1_s2_21 at h
  refine G.iload_n C 3 dX8_stands_21 rfl rfl ?_
  refine G.aload_n C 1 dX8_stands_22 rfl rfl ?_
  refine G.slen (rest := [.int x3]) (v := (6 : Int32)) 2 C (by decide) (by decide) tg_737 (Nat.le_of_ble_eq_true rfl) dX8_stands_23 ⟨Nat.le_of_ble_eq_true rfl, Nat.le_of_ble_eq_true rfl⟩ ⟨Nat.le_refl 0, Nat.le_refl 0⟩ ?_
  refine G.icmp_ge (tgt := 63) C dX8_stands_26 (by decide) (fun hc => ?_) (fun hc => ?_)
  · have h := it_t h hc
    refine G.iconst (v := (1 : Int32)) C dX8_stands_63 (by decide) ?_
    cases h
    exact G.zret C hr rfl dX8_stands_64
  · have h := it_f h hc
    refine G.iload_n C 2 dX8_stands_29 rfl rfl ?_
    refine G.iload_n C 3 dX8_stands_30 rfl rfl ?_
    refine G.iadd C dX8_stands_31 ?_
    refine G.aload_n C 0 dX8_stands_32 rfl rfl ?_
    refine G.getI (k := 3) C k_X8 (sc_1 hE) rfl (by decide) tg_199 dX8_stands_33 ?_
    refine G.icmp_ge (tgt := 63) C dX8_stands_36 (by decide) (fun hc => ?_) (fun hc => ?_)
    · have h := it_t h hc
      refine G.iconst (v := (1 : Int32)) C dX8_stands_63 (by decide) ?_
      cases h
      exact G.zret C hr rfl dX8_stands_64
    · have h := it_f h hc
      refine G.aload_n C 0 dX8_stands_39 rfl rfl ?_
      refine G.getR (k := 0) C k_X8 (sc_1 hE) rfl (by decide) tg_194 dX8_stands_40 ?_
      refine G.iload_n C 2 dX8_stands_43 rfl rfl ?_
      refine G.iload_n C 3 dX8_stands_44 rfl rfl ?_
      refine G.iadd C dX8_stands_45 ?_
      obtain ⟨hg_1, h⟩ := gd_ex h
      refine G.aI (j := ix (x2 + x3)) C (sc_2 hE) hg_1 rfl dX8_stands_46 ?_
      refine G.aload_n C 1 dX8_stands_47 rfl rfl ?_
      refine G.iload_n C 3 dX8_stands_48 rfl rfl ?_
      obtain ⟨hg_2, h⟩ := gd_ex h
      refine G.schr (rest := [.int (M.1 2 (ix (x2 + x3)))]) 2 C (by decide) hg_2 tg_747 (Nat.le_of_ble_eq_true rfl) dX8_stands_49 ⟨Nat.le_of_ble_eq_true rfl, Nat.le_of_ble_eq_true rfl⟩ ⟨Nat.le_refl 0, Nat.le_refl 0⟩ ?_
      refine G.icmp_eq (tgt := 57) C dX8_stands_52 (by decide) (fun hc => ?_) (fun hc => ?_)
      · have h := it_t h hc
        obtain ⟨x3_3, ex3_3, h⟩ := ltv_ex h
        refine G.iinc (L' := [(3, .int x3_3), (0, .ref (eA E 1)), (1, .ref (eX E 3)), (2, .int x2)]) C 3 dX8_stands_57 rfl (ex3_3.trans rfl) (by decide) rfl ?_
        refine G.goto (tgt := 21) C dX8_stands_60 (by decide) ?_
        exact G.sub [1, 2, 3, 0] rfl (hk_21 _ _ _  h)
      · have h := it_f h hc
        refine G.iconst (v := (0 : Int32)) C dX8_stands_55 (by decide) ?_
        cases h
        exact G.zret C hr rfl dX8_stands_56
def b_X8_stands_1_s2_21 : Nat → Int32 → Int32 → Mm → Option Int32
  | 0, _, _, _ => none
  | n + 1, x2, x3, M => bb_X8_stands_1_s2_21 (b_X8_stands_1_s2_21 n) x2 x3 M
set_option maxHeartbeats 4000000 in
theorem g_X8_stands_1_s2_21  {n : Nat} {x2 : Int32} {x3 : Int32} {M : Mm} {v : Int32} (hE : Has shC (eH E)) (C : Cx RX8 cX8_stands 4 p (rmD 5) s m args meth c E) (hr : meth.sig.returnType = (some .boolean)) (h : b_X8_stands_1_s2_21 n x2 x3 M = some v) : G p l e (rmD 5) s m args below meth c E 4 0 0 (QR below args s E 0 0 (some (.int v)) M) 21 [(0, .ref (eA E 1)), (1, .ref (eX E 3)), (2, .int x2), (3, .int x3)] [] M := by
  induction n generalizing x2 x3 M with
  | zero => cases h
  | succ n ih => exact gb_X8_stands_1_s2_21 hE C hr (fun _ _ _ => ih)  h
def bb_X8_stands_1_s2_0 (x2 : Int32) (M : Mm) : Option Int32 := if x2 < 0 then (some (0 : Int32)) else (if ((M.1 1 4) - x2) = (6 : Int32) then (b_X8_stands_1_s2_21 FU x2 (0 : Int32) M) else (some (0 : Int32)))
set_option maxHeartbeats 4000000 in
set_option maxRecDepth 100000 in
theorem gb_X8_stands_1_s2_0  {x2 : Int32} {M : Mm} {v : Int32} (hE : Has shC (eH E)) (C : Cx RX8 cX8_stands 4 p (rmD 5) s m args meth c E) (hr : meth.sig.returnType = (some .boolean)) (h : bb_X8_stands_1_s2_0 x2 M = some v) : G p l e (rmD 5) s m args below meth c E 4 0 0 (QR below args s E 0 0 (some (.int v)) M) 0 [(0, .ref (eA E 1)), (1, .ref (eX E 3)), (2, .int x2)] [] M := by
  unfold bb_X8_stands_1_s2_0 at h
  refine G.iload_n C 2 dX8_stands_0 rfl rfl ?_
  refine G.if_lt (tgt := 17) C dX8_stands_1 (by decide) (fun hc => ?_) (fun hc => ?_)
  · have h := it_t h hc
    refine G.iconst (v := (0 : Int32)) C dX8_stands_17 (by decide) ?_
    cases h
    exact G.zret C hr rfl dX8_stands_18
  · have h := it_f h hc
    refine G.aload_n C 0 dX8_stands_4 rfl rfl ?_
    refine G.getI (k := 4) C k_X8 (sc_1 hE) rfl (by decide) tg_200 dX8_stands_5 ?_
    refine G.iload_n C 2 dX8_stands_8 rfl rfl ?_
    refine G.isub C dX8_stands_9 ?_
    refine G.aload_n C 1 dX8_stands_10 rfl rfl ?_
    refine G.slen (rest := [.int ((M.1 1 4) - x2)]) (v := (6 : Int32)) 2 C (by decide) (by decide) tg_737 (Nat.le_of_ble_eq_true rfl) dX8_stands_11 ⟨Nat.le_of_ble_eq_true rfl, Nat.le_of_ble_eq_true rfl⟩ ⟨Nat.le_refl 0, Nat.le_refl 0⟩ ?_
    refine G.icmp_eq (tgt := 19) C dX8_stands_14 (by decide) (fun hc => ?_) (fun hc => ?_)
    · have h := it_t h hc
      refine G.iconst (v := (0 : Int32)) C dX8_stands_19 (by decide) ?_
      refine G.istore_n (L' := [(3, .int (0 : Int32)), (0, .ref (eA E 1)), (1, .ref (eX E 3)), (2, .int x2)]) C dX8_stands_20 rfl rfl (by decide) rfl ?_
      exact G.sub [1, 2, 3, 0] rfl (g_X8_stands_1_s2_21 hE C hr  h)
    · have h := it_f h hc
      refine G.iconst (v := (0 : Int32)) C dX8_stands_17 (by decide) ?_
      cases h
      exact G.zret C hr rfl dX8_stands_18
def f_X8_stands_1_s2 (x2 : Int32) (M : Mm) : Option Int32 := bb_X8_stands_1_s2_0 x2 M
theorem s_X8_stands_1_s2 {l : Launch} {E : Ev} {x2 : Int32} {M : Mm} {v : Int32} (hE : Has shC (eH E)) (h : f_X8_stands_1_s2 x2 M = some v) : MetA l yX8_stands cX8_stands 4 (some .boolean) 5 E [.ref (eA E 1), .ref (eX E 3), .int x2] M (some (.int v)) M := by
  refine MetA.of (by decide +kernel) (Nat.le_of_ble_eq_true rfl) ?_
  intro p e s m below meth c C hr hnm
  exact G.sub [0, 1, 2] rfl (gb_X8_stands_1_s2_0 hE C hr  h)
def bb_X8_stands_1_s3_21 (k_21 : Int32 → Int32 → Mm → Option Int32) (x2 : Int32) (x3 : Int32) (M : Mm) : Option Int32 := if (3 : Int32) ≤ x3 then (some (1 : Int32)) else (if (M.1 1 3) ≤ (x2 + x3) then (some (1 : Int32)) else (gd (inb (x2 + x3) 500) (gd (inb x3 3) (if (M.1 2 (ix (x2 + x3))) = (strC 3 (ix x3)) then (ltv (x3 + (1 : Int32)) fun x3_3 => k_21 x2 x3_3 M) else (some (0 : Int32))))))
set_option maxHeartbeats 4000000 in
set_option maxRecDepth 100000 in
theorem gb_X8_stands_1_s3_21  {k_21 : Int32 → Int32 → Mm → Option Int32} {x2 : Int32} {x3 : Int32} {M : Mm} {v : Int32} (hE : Has shC (eH E)) (C : Cx RX8 cX8_stands 4 p (rmD 5) s m args meth c E) (hr : meth.sig.returnType = (some .boolean)) (hk_21 : ∀ (x2 : Int32) (x3 : Int32) (M : Mm), k_21 x2 x3 M = some v → G p l e (rmD 5) s m args below meth c E 4 0 0 (QR below args s E 0 0 (some (.int v)) M) 21 [(0, .ref (eA E 1)), (1, .ref (eX E 4)), (2, .int x2), (3, .int x3)] [] M) (h : bb_X8_stands_1_s3_21 k_21 x2 x3 M = some v) : G p l e (rmD 5) s m args below meth c E 4 0 0 (QR below args s E 0 0 (some (.int v)) M) 21 [(0, .ref (eA E 1)), (1, .ref (eX E 4)), (2, .int x2), (3, .int x3)] [] M := by
  unfold bb_X8_stands_1_s3_21 at h
  refine G.iload_n C 3 dX8_stands_21 rfl rfl ?_
  refine G.aload_n C 1 dX8_stands_22 rfl rfl ?_
  refine G.slen (rest := [.int x3]) (v := (3 : Int32)) 3 C (by decide) (by decide) tg_737 (Nat.le_of_ble_eq_true rfl) dX8_stands_23 ⟨Nat.le_of_ble_eq_true rfl, Nat.le_of_ble_eq_true rfl⟩ ⟨Nat.le_refl 0, Nat.le_refl 0⟩ ?_
  refine G.icmp_ge (tgt := 63) C dX8_stands_26 (by decide) (fun hc => ?_) (fun hc => ?_)
  · have h := it_t h hc
    refine G.iconst (v := (1 : Int32)) C dX8_stands_63 (by decide) ?_
    cases h
    exact G.zret C hr rfl dX8_stands_64
  · have h := it_f h hc
    refine G.iload_n C 2 dX8_stands_29 rfl rfl ?_
    refine G.iload_n C 3 dX8_stands_30 rfl rfl ?_
    refine G.iadd C dX8_stands_31 ?_
    refine G.aload_n C 0 dX8_stands_32 rfl rfl ?_
    refine G.getI (k := 3) C k_X8 (sc_1 hE) rfl (by decide) tg_199 dX8_stands_33 ?_
    refine G.icmp_ge (tgt := 63) C dX8_stands_36 (by decide) (fun hc => ?_) (fun hc => ?_)
    · have h := it_t h hc
      refine G.iconst (v := (1 : Int32)) C dX8_stands_63 (by decide) ?_
      cases h
      exact G.zret C hr rfl dX8_stands_64
    · have h := it_f h hc
      refine G.aload_n C 0 dX8_stands_39 rfl rfl ?_
      refine G.getR (k := 0) C k_X8 (sc_1 hE) rfl (by decide) tg_194 dX8_stands_40 ?_
      refine G.iload_n C 2 dX8_stands_43 rfl rfl ?_
      refine G.iload_n C 3 dX8_stands_44 rfl rfl ?_
      refine G.iadd C dX8_stands_45 ?_
      obtain ⟨hg_1, h⟩ := gd_ex h
      refine G.aI (j := ix (x2 + x3)) C (sc_2 hE) hg_1 rfl dX8_stands_46 ?_
      refine G.aload_n C 1 dX8_stands_47 rfl rfl ?_
      refine G.iload_n C 3 dX8_stands_48 rfl rfl ?_
      obtain ⟨hg_2, h⟩ := gd_ex h
      refine G.schr (rest := [.int (M.1 2 (ix (x2 + x3)))]) 3 C (by decide) hg_2 tg_747 (Nat.le_of_ble_eq_true rfl) dX8_stands_49 ⟨Nat.le_of_ble_eq_true rfl, Nat.le_of_ble_eq_true rfl⟩ ⟨Nat.le_refl 0, Nat.le_refl 0⟩ ?_
      refine G.icmp_eq (tgt := 57) C dX8_stands_52 (by decide) (fun hc => ?_) (fun hc => ?_)
      · have h := it_t h hc
        obtain ⟨x3_3, ex3_3, h⟩ := ltv_ex h
        refine G.iinc (L' := [(3, .int x3_3), (0, .ref (eA E 1)), (1, .ref (eX E 4)), (2, .int x2)]) C 3 dX8_stands_57 rfl (ex3_3.trans rfl) (by decide) rfl ?_
        refine G.goto (tgt := 21) C dX8_stands_60 (by decide) ?_
        exact G.sub [1, 2, 3, 0] rfl (hk_21 _ _ _  h)
      · have h := it_f h hc
        refine G.iconst (v := (0 : Int32)) C dX8_stands_55 (by decide) ?_
        cases h
        exact G.zret C hr rfl dX8_stands_56
def b_X8_stands_1_s3_21 : Nat → Int32 → Int32 → Mm → Option Int32
  | 0, _, _, _ => none
  | n + 1, x2, x3, M => bb_X8_stands_1_s3_21 (b_X8_stands_1_s3_21 n) x2 x3 M
set_option maxHeartbeats 4000000 in
theorem g_X8_stands_1_s3_21  {n : Nat} {x2 : Int32} {x3 : Int32} {M : Mm} {v : Int32} (hE : Has shC (eH E)) (C : Cx RX8 cX8_stands 4 p (rmD 5) s m args meth c E) (hr : meth.sig.returnType = (some .boolean)) (h : b_X8_stands_1_s3_21 n x2 x3 M = some v) : G p l e (rmD 5) s m args below meth c E 4 0 0 (QR below args s E 0 0 (some (.int v)) M) 21 [(0, .ref (eA E 1)), (1, .ref (eX E 4)), (2, .int x2), (3, .int x3)] [] M := by
  induction n generalizing x2 x3 M with
  | zero => cases h
  | succ n ih => exact gb_X8_stands_1_s3_21 hE C hr (fun _ _ _ => ih)  h
def bb_X8_stands_1_s3_0 (x2 : Int32) (M : Mm) : Option Int32 := if x2 < 0 then (some (0 : Int32)) else (if ((M.1 1 4) - x2) = (3 : Int32) then (b_X8_stands_1_s3_21 FU x2 (0 : Int32) M) else (some (0 : Int32)))
set_option maxHeartbeats 4000000 in
set_option maxRecDepth 100000 in
theorem gb_X8_stands_1_s3_0  {x2 : Int32} {M : Mm} {v : Int32} (hE : Has shC (eH E)) (C : Cx RX8 cX8_stands 4 p (rmD 5) s m args meth c E) (hr : meth.sig.returnType = (some .boolean)) (h : bb_X8_stands_1_s3_0 x2 M = some v) : G p l e (rmD 5) s m args below meth c E 4 0 0 (QR below args s E 0 0 (some (.int v)) M) 0 [(0, .ref (eA E 1)), (1, .ref (eX E 4)), (2, .int x2)] [] M := by
  unfold bb_X8_stands_1_s3_0 at h
  refine G.iload_n C 2 dX8_stands_0 rfl rfl ?_
  refine G.if_lt (tgt := 17) C dX8_stands_1 (by decide) (fun hc => ?_) (fun hc => ?_)
  · have h := it_t h hc
    refine G.iconst (v := (0 : Int32)) C dX8_stands_17 (by decide) ?_
    cases h
    exact G.zret C hr rfl dX8_stands_18
  · have h := it_f h hc
    refine G.aload_n C 0 dX8_stands_4 rfl rfl ?_
    refine G.getI (k := 4) C k_X8 (sc_1 hE) rfl (by decide) tg_200 dX8_stands_5 ?_
    refine G.iload_n C 2 dX8_stands_8 rfl rfl ?_
    refine G.isub C dX8_stands_9 ?_
    refine G.aload_n C 1 dX8_stands_10 rfl rfl ?_
    refine G.slen (rest := [.int ((M.1 1 4) - x2)]) (v := (3 : Int32)) 3 C (by decide) (by decide) tg_737 (Nat.le_of_ble_eq_true rfl) dX8_stands_11 ⟨Nat.le_of_ble_eq_true rfl, Nat.le_of_ble_eq_true rfl⟩ ⟨Nat.le_refl 0, Nat.le_refl 0⟩ ?_
    refine G.icmp_eq (tgt := 19) C dX8_stands_14 (by decide) (fun hc => ?_) (fun hc => ?_)
    · have h := it_t h hc
      refine G.iconst (v := (0 : Int32)) C dX8_stands_19 (by decide) ?_
      refine G.istore_n (L' := [(3, .int (0 : Int32)), (0, .ref (eA E 1)), (1, .ref (eX E 4)), (2, .int x2)]) C dX8_stands_20 rfl rfl (by decide) rfl ?_
      exact G.sub [1, 2, 3, 0] rfl (g_X8_stands_1_s3_21 hE C hr  h)
    · have h := it_f h hc
      refine G.iconst (v := (0 : Int32)) C dX8_stands_17 (by decide) ?_
      cases h
      exact G.zret C hr rfl dX8_stands_18
def f_X8_stands_1_s3 (x2 : Int32) (M : Mm) : Option Int32 := bb_X8_stands_1_s3_0 x2 M
theorem s_X8_stands_1_s3 {l : Launch} {E : Ev} {x2 : Int32} {M : Mm} {v : Int32} (hE : Has shC (eH E)) (h : f_X8_stands_1_s3 x2 M = some v) : MetA l yX8_stands cX8_stands 4 (some .boolean) 5 E [.ref (eA E 1), .ref (eX E 4), .int x2] M (some (.int v)) M := by
  refine MetA.of (by decide +kernel) (Nat.le_of_ble_eq_true rfl) ?_
  intro p e s m below meth c C hr hnm
  exact G.sub [0, 1, 2] rfl (gb_X8_stands_1_s3_0 hE C hr  h)
def bb_X8_stands_1_s4_21 (k_21 : Int32 → Int32 → Mm → Option Int32) (x2 : Int32) (x3 : Int32) (M : Mm) : Option Int32 := if (4 : Int32) ≤ x3 then (some (1 : Int32)) else (if (M.1 1 3) ≤ (x2 + x3) then (some (1 : Int32)) else (gd (inb (x2 + x3) 500) (gd (inb x3 4) (if (M.1 2 (ix (x2 + x3))) = (strC 4 (ix x3)) then (ltv (x3 + (1 : Int32)) fun x3_3 => k_21 x2 x3_3 M) else (some (0 : Int32))))))
set_option maxHeartbeats 4000000 in
set_option maxRecDepth 100000 in
theorem gb_X8_stands_1_s4_21  {k_21 : Int32 → Int32 → Mm → Option Int32} {x2 : Int32} {x3 : Int32} {M : Mm} {v : Int32} (hE : Has shC (eH E)) (C : Cx RX8 cX8_stands 4 p (rmD 5) s m args meth c E) (hr : meth.sig.returnType = (some .boolean)) (hk_21 : ∀ (x2 : Int32) (x3 : Int32) (M : Mm), k_21 x2 x3 M = some v → G p l e (rmD 5) s m args below meth c E 4 0 0 (QR below args s E 0 0 (some (.int v)) M) 21 [(0, .ref (eA E 1)), (1, .ref (eX E 5)), (2, .int x2), (3, .int x3)] [] M) (h : bb_X8_stands_1_s4_21 k_21 x2 x3 M = some v) : G p l e (rmD 5) s m args below meth c E 4 0 0 (QR below args s E 0 0 (some (.int v)) M) 21 [(0, .ref (eA E 1)), (1, .ref (eX E 5)), (2, .int x2), (3, .int x3)] [] M := by
  unfold bb_X8_stands_1_s4_21 at h
  refine G.iload_n C 3 dX8_stands_21 rfl rfl ?_
  refine G.aload_n C 1 dX8_stands_22 rfl rfl ?_
  refine G.slen (rest := [.int x3]) (v := (4 : Int32)) 4 C (by decide) (by decide) tg_737 (Nat.le_of_ble_eq_true rfl) dX8_stands_23 ⟨Nat.le_of_ble_eq_true rfl, Nat.le_of_ble_eq_true rfl⟩ ⟨Nat.le_refl 0, Nat.le_refl 0⟩ ?_
  refine G.icmp_ge (tgt := 63) C dX8_stands_26 (by decide) (fun hc => ?_) (fun hc => ?_)
  · have h := it_t h hc
    refine G.iconst (v := (1 : Int32)) C dX8_stands_63 (by decide) ?_
    cases h
    exact G.zret C hr rfl dX8_stands_64
  · have h := it_f h hc
    refine G.iload_n C 2 dX8_stands_29 rfl rfl ?_
    refine G.iload_n C 3 dX8_stands_30 rfl rfl ?_
    refine G.iadd C dX8_stands_31 ?_
    refine G.aload_n C 0 dX8_stands_32 rfl rfl ?_
    refine G.getI (k := 3) C k_X8 (sc_1 hE) rfl (by decide) tg_199 dX8_stands_33 ?_
    refine G.icmp_ge (tgt := 63) C dX8_stands_36 (by decide) (fun hc => ?_) (fun hc => ?_)
    · have h := it_t h hc
      refine G.iconst (v := (1 : Int32)) C dX8_stands_63 (by decide) ?_
      cases h
      exact G.zret C hr rfl dX8_stands_64
    · have h := it_f h hc
      refine G.aload_n C 0 dX8_stands_39 rfl rfl ?_
      refine G.getR (k := 0) C k_X8 (sc_1 hE) rfl (by decide) tg_194 dX8_stands_40 ?_
      refine G.iload_n C 2 dX8_stands_43 rfl rfl ?_
      refine G.iload_n C 3 dX8_stands_44 rfl rfl ?_
      refine G.iadd C dX8_stands_45 ?_
      obtain ⟨hg_1, h⟩ := gd_ex h
      refine G.aI (j := ix (x2 + x3)) C (sc_2 hE) hg_1 rfl dX8_stands_46 ?_
      refine G.aload_n C 1 dX8_stands_47 rfl rfl ?_
      refine G.iload_n C 3 dX8_stands_48 rfl rfl ?_
      obtain ⟨hg_2, h⟩ := gd_ex h
      refine G.schr (rest := [.int (M.1 2 (ix (x2 + x3)))]) 4 C (by decide) hg_2 tg_747 (Nat.le_of_ble_eq_true rfl) dX8_stands_49 ⟨Nat.le_of_ble_eq_true rfl, Nat.le_of_ble_eq_true rfl⟩ ⟨Nat.le_refl 0, Nat.le_refl 0⟩ ?_
      refine G.icmp_eq (tgt := 57) C dX8_stands_52 (by decide) (fun hc => ?_) (fun hc => ?_)
      · have h := it_t h hc
        obtain ⟨x3_3, ex3_3, h⟩ := ltv_ex h
        refine G.iinc (L' := [(3, .int x3_3), (0, .ref (eA E 1)), (1, .ref (eX E 5)), (2, .int x2)]) C 3 dX8_stands_57 rfl (ex3_3.trans rfl) (by decide) rfl ?_
        refine G.goto (tgt := 21) C dX8_stands_60 (by decide) ?_
        exact G.sub [1, 2, 3, 0] rfl (hk_21 _ _ _  h)
      · have h := it_f h hc
        refine G.iconst (v := (0 : Int32)) C dX8_stands_55 (by decide) ?_
        cases h
        exact G.zret C hr rfl dX8_stands_56
def b_X8_stands_1_s4_21 : Nat → Int32 → Int32 → Mm → Option Int32
  | 0, _, _, _ => none
  | n + 1, x2, x3, M => bb_X8_stands_1_s4_21 (b_X8_stands_1_s4_21 n) x2 x3 M
set_option maxHeartbeats 4000000 in
theorem g_X8_stands_1_s4_21  {n : Nat} {x2 : Int32} {x3 : Int32} {M : Mm} {v : Int32} (hE : Has shC (eH E)) (C : Cx RX8 cX8_stands 4 p (rmD 5) s m args meth c E) (hr : meth.sig.returnType = (some .boolean)) (h : b_X8_stands_1_s4_21 n x2 x3 M = some v) : G p l e (rmD 5) s m args below meth c E 4 0 0 (QR below args s E 0 0 (some (.int v)) M) 21 [(0, .ref (eA E 1)), (1, .ref (eX E 5)), (2, .int x2), (3, .int x3)] [] M := by
  induction n generalizing x2 x3 M with
  | zero => cases h
  | succ n ih => exact gb_X8_stands_1_s4_21 hE C hr (fun _ _ _ => ih)  h
def bb_X8_stands_1_s4_0 (x2 : Int32) (M : Mm) : Option Int32 := if x2 < 0 then (some (0 : Int32)) else (if ((M.1 1 4) - x2) = (4 : Int32) then (b_X8_stands_1_s4_21 FU x2 (0 : Int32) M) else (some (0 : Int32)))
set_option maxHeartbeats 4000000 in
set_option maxRecDepth 100000 in
theorem gb_X8_stands_1_s4_0  {x2 : Int32} {M : Mm} {v : Int32} (hE : Has shC (eH E)) (C : Cx RX8 cX8_stands 4 p (rmD 5) s m args meth c E) (hr : meth.sig.returnType = (some .boolean)) (h : bb_X8_stands_1_s4_0 x2 M = some v) : G p l e (rmD 5) s m args below meth c E 4 0 0 (QR below args s E 0 0 (some (.int v)) M) 0 [(0, .ref (eA E 1)), (1, .ref (eX E 5)), (2, .int x2)] [] M := by
  unfold bb_X8_stands_1_s4_0 at h
  refine G.iload_n C 2 dX8_stands_0 rfl rfl ?_
  refine G.if_lt (tgt := 17) C dX8_stands_1 (by decide) (fun hc => ?_) (fun hc => ?_)
  · have h := it_t h hc
    refine G.iconst (v := (0 : Int32)) C dX8_stands_17 (by decide) ?_
    cases h
    exact G.zret C hr rfl dX8_stands_18
  · have h := it_f h hc
    refine G.aload_n C 0 dX8_stands_4 rfl rfl ?_
    refine G.getI (k := 4) C k_X8 (sc_1 hE) rfl (by decide) tg_200 dX8_stands_5 ?_
    refine G.iload_n C 2 dX8_stands_8 rfl rfl ?_
    refine G.isub C dX8_stands_9 ?_
    refine G.aload_n C 1 dX8_stands_10 rfl rfl ?_
    refine G.slen (rest := [.int ((M.1 1 4) - x2)]) (v := (4 : Int32)) 4 C (by decide) (by decide) tg_737 (Nat.le_of_ble_eq_true rfl) dX8_stands_11 ⟨Nat.le_of_ble_eq_true rfl, Nat.le_of_ble_eq_true rfl⟩ ⟨Nat.le_refl 0, Nat.le_refl 0⟩ ?_
    refine G.icmp_eq (tgt := 19) C dX8_stands_14 (by decide) (fun hc => ?_) (fun hc => ?_)
    · have h := it_t h hc
      refine G.iconst (v := (0 : Int32)) C dX8_stands_19 (by decide) ?_
      refine G.istore_n (L' := [(3, .int (0 : Int32)), (0, .ref (eA E 1)), (1, .ref (eX E 5)), (2, .int x2)]) C dX8_stands_20 rfl rfl (by decide) rfl ?_
      exact G.sub [1, 2, 3, 0] rfl (g_X8_stands_1_s4_21 hE C hr  h)
    · have h := it_f h hc
      refine G.iconst (v := (0 : Int32)) C dX8_stands_17 (by decide) ?_
      cases h
      exact G.zret C hr rfl dX8_stands_18
def f_X8_stands_1_s4 (x2 : Int32) (M : Mm) : Option Int32 := bb_X8_stands_1_s4_0 x2 M
theorem s_X8_stands_1_s4 {l : Launch} {E : Ev} {x2 : Int32} {M : Mm} {v : Int32} (hE : Has shC (eH E)) (h : f_X8_stands_1_s4 x2 M = some v) : MetA l yX8_stands cX8_stands 4 (some .boolean) 5 E [.ref (eA E 1), .ref (eX E 5), .int x2] M (some (.int v)) M := by
  refine MetA.of (by decide +kernel) (Nat.le_of_ble_eq_true rfl) ?_
  intro p e s m below meth c C hr hnm
  exact G.sub [0, 1, 2] rfl (gb_X8_stands_1_s4_0 hE C hr  h)
def bb_X8_stands_1_s5_21 (k_21 : Int32 → Int32 → Mm → Option Int32) (x2 : Int32) (x3 : Int32) (M : Mm) : Option Int32 := if (3 : Int32) ≤ x3 then (some (1 : Int32)) else (if (M.1 1 3) ≤ (x2 + x3) then (some (1 : Int32)) else (gd (inb (x2 + x3) 500) (gd (inb x3 3) (if (M.1 2 (ix (x2 + x3))) = (strC 5 (ix x3)) then (ltv (x3 + (1 : Int32)) fun x3_3 => k_21 x2 x3_3 M) else (some (0 : Int32))))))
set_option maxHeartbeats 4000000 in
set_option maxRecDepth 100000 in
theorem gb_X8_stands_1_s5_21  {k_21 : Int32 → Int32 → Mm → Option Int32} {x2 : Int32} {x3 : Int32} {M : Mm} {v : Int32} (hE : Has shC (eH E)) (C : Cx RX8 cX8_stands 4 p (rmD 5) s m args meth c E) (hr : meth.sig.returnType = (some .boolean)) (hk_21 : ∀ (x2 : Int32) (x3 : Int32) (M : Mm), k_21 x2 x3 M = some v → G p l e (rmD 5) s m args below meth c E 4 0 0 (QR below args s E 0 0 (some (.int v)) M) 21 [(0, .ref (eA E 1)), (1, .ref (eX E 6)), (2, .int x2), (3, .int x3)] [] M) (h : bb_X8_stands_1_s5_21 k_21 x2 x3 M = some v) : G p l e (rmD 5) s m args below meth c E 4 0 0 (QR below args s E 0 0 (some (.int v)) M) 21 [(0, .ref (eA E 1)), (1, .ref (eX E 6)), (2, .int x2), (3, .int x3)] [] M := by
  unfold bb_X8_stands_1_s5_21 at h
  refine G.iload_n C 3 dX8_stands_21 rfl rfl ?_
  refine G.aload_n C 1 dX8_stands_22 rfl rfl ?_
  refine G.slen (rest := [.int x3]) (v := (3 : Int32)) 5 C (by decide) (by decide) tg_737 (Nat.le_of_ble_eq_true rfl) dX8_stands_23 ⟨Nat.le_of_ble_eq_true rfl, Nat.le_of_ble_eq_true rfl⟩ ⟨Nat.le_refl 0, Nat.le_refl 0⟩ ?_
  refine G.icmp_ge (tgt := 63) C dX8_stands_26 (by decide) (fun hc => ?_) (fun hc => ?_)
  · have h := it_t h hc
    refine G.iconst (v := (1 : Int32)) C dX8_stands_63 (by decide) ?_
    cases h
    exact G.zret C hr rfl dX8_stands_64
  · have h := it_f h hc
    refine G.iload_n C 2 dX8_stands_29 rfl rfl ?_
    refine G.iload_n C 3 dX8_stands_30 rfl rfl ?_
    refine G.iadd C dX8_stands_31 ?_
    refine G.aload_n C 0 dX8_stands_32 rfl rfl ?_
    refine G.getI (k := 3) C k_X8 (sc_1 hE) rfl (by decide) tg_199 dX8_stands_33 ?_
    refine G.icmp_ge (tgt := 63) C dX8_stands_36 (by decide) (fun hc => ?_) (fun hc => ?_)
    · have h := it_t h hc
      refine G.iconst (v := (1 : Int32)) C dX8_stands_63 (by decide) ?_
      cases h
      exact G.zret C hr rfl dX8_stands_64
    · have h := it_f h hc
      refine G.aload_n C 0 dX8_stands_39 rfl rfl ?_
      refine G.getR (k := 0) C k_X8 (sc_1 hE) rfl (by decide) tg_194 dX8_stands_40 ?_
      refine G.iload_n C 2 dX8_stands_43 rfl rfl ?_
      refine G.iload_n C 3 dX8_stands_44 rfl rfl ?_
      refine G.iadd C dX8_stands_45 ?_
      obtain ⟨hg_1, h⟩ := gd_ex h
      refine G.aI (j := ix (x2 + x3)) C (sc_2 hE) hg_1 rfl dX8_stands_46 ?_
      refine G.aload_n C 1 dX8_stands_47 rfl rfl ?_
      refine G.iload_n C 3 dX8_stands_48 rfl rfl ?_
      obtain ⟨hg_2, h⟩ := gd_ex h
      refine G.schr (rest := [.int (M.1 2 (ix (x2 + x3)))]) 5 C (by decide) hg_2 tg_747 (Nat.le_of_ble_eq_true rfl) dX8_stands_49 ⟨Nat.le_of_ble_eq_true rfl, Nat.le_of_ble_eq_true rfl⟩ ⟨Nat.le_refl 0, Nat.le_refl 0⟩ ?_
      refine G.icmp_eq (tgt := 57) C dX8_stands_52 (by decide) (fun hc => ?_) (fun hc => ?_)
      · have h := it_t h hc
        obtain ⟨x3_3, ex3_3, h⟩ := ltv_ex h
        refine G.iinc (L' := [(3, .int x3_3), (0, .ref (eA E 1)), (1, .ref (eX E 6)), (2, .int x2)]) C 3 dX8_stands_57 rfl (ex3_3.trans rfl) (by decide) rfl ?_
        refine G.goto (tgt := 21) C dX8_stands_60 (by decide) ?_
        exact G.sub [1, 2, 3, 0] rfl (hk_21 _ _ _  h)
      · have h := it_f h hc
        refine G.iconst (v := (0 : Int32)) C dX8_stands_55 (by decide) ?_
        cases h
        exact G.zret C hr rfl dX8_stands_56
def b_X8_stands_1_s5_21 : Nat → Int32 → Int32 → Mm → Option Int32
  | 0, _, _, _ => none
  | n + 1, x2, x3, M => bb_X8_stands_1_s5_21 (b_X8_stands_1_s5_21 n) x2 x3 M
set_option maxHeartbeats 4000000 in
theorem g_X8_stands_1_s5_21  {n : Nat} {x2 : Int32} {x3 : Int32} {M : Mm} {v : Int32} (hE : Has shC (eH E)) (C : Cx RX8 cX8_stands 4 p (rmD 5) s m args meth c E) (hr : meth.sig.returnType = (some .boolean)) (h : b_X8_stands_1_s5_21 n x2 x3 M = some v) : G p l e (rmD 5) s m args below meth c E 4 0 0 (QR below args s E 0 0 (some (.int v)) M) 21 [(0, .ref (eA E 1)), (1, .ref (eX E 6)), (2, .int x2), (3, .int x3)] [] M := by
  induction n generalizing x2 x3 M with
  | zero => cases h
  | succ n ih => exact gb_X8_stands_1_s5_21 hE C hr (fun _ _ _ => ih)  h
def bb_X8_stands_1_s5_0 (x2 : Int32) (M : Mm) : Option Int32 := if x2 < 0 then (some (0 : Int32)) else (if ((M.1 1 4) - x2) = (3 : Int32) then (b_X8_stands_1_s5_21 FU x2 (0 : Int32) M) else (some (0 : Int32)))
set_option maxHeartbeats 4000000 in
set_option maxRecDepth 100000 in
theorem gb_X8_stands_1_s5_0  {x2 : Int32} {M : Mm} {v : Int32} (hE : Has shC (eH E)) (C : Cx RX8 cX8_stands 4 p (rmD 5) s m args meth c E) (hr : meth.sig.returnType = (some .boolean)) (h : bb_X8_stands_1_s5_0 x2 M = some v) : G p l e (rmD 5) s m args below meth c E 4 0 0 (QR below args s E 0 0 (some (.int v)) M) 0 [(0, .ref (eA E 1)), (1, .ref (eX E 6)), (2, .int x2)] [] M := by
  unfold bb_X8_stands_1_s5_0 at h
  refine G.iload_n C 2 dX8_stands_0 rfl rfl ?_
  refine G.if_lt (tgt := 17) C dX8_stands_1 (by decide) (fun hc => ?_) (fun hc => ?_)
  · have h := it_t h hc
    refine G.iconst (v := (0 : Int32)) C dX8_stands_17 (by decide) ?_
    cases h
    exact G.zret C hr rfl dX8_stands_18
  · have h := it_f h hc
    refine G.aload_n C 0 dX8_stands_4 rfl rfl ?_
    refine G.getI (k := 4) C k_X8 (sc_1 hE) rfl (by decide) tg_200 dX8_stands_5 ?_
    refine G.iload_n C 2 dX8_stands_8 rfl rfl ?_
    refine G.isub C dX8_stands_9 ?_
    refine G.aload_n C 1 dX8_stands_10 rfl rfl ?_
    refine G.slen (rest := [.int ((M.1 1 4) - x2)]) (v := (3 : Int32)) 5 C (by decide) (by decide) tg_737 (Nat.le_of_ble_eq_true rfl) dX8_stands_11 ⟨Nat.le_of_ble_eq_true rfl, Nat.le_of_ble_eq_true rfl⟩ ⟨Nat.le_refl 0, Nat.le_refl 0⟩ ?_
    refine G.icmp_eq (tgt := 19) C dX8_stands_14 (by decide) (fun hc => ?_) (fun hc => ?_)
    · have h := it_t h hc
      refine G.iconst (v := (0 : Int32)) C dX8_stands_19 (by decide) ?_
      refine G.istore_n (L' := [(3, .int (0 : Int32)), (0, .ref (eA E 1)), (1, .ref (eX E 6)), (2, .int x2)]) C dX8_stands_20 rfl rfl (by decide) rfl ?_
      exact G.sub [1, 2, 3, 0] rfl (g_X8_stands_1_s5_21 hE C hr  h)
    · have h := it_f h hc
      refine G.iconst (v := (0 : Int32)) C dX8_stands_17 (by decide) ?_
      cases h
      exact G.zret C hr rfl dX8_stands_18
def f_X8_stands_1_s5 (x2 : Int32) (M : Mm) : Option Int32 := bb_X8_stands_1_s5_0 x2 M
theorem s_X8_stands_1_s5 {l : Launch} {E : Ev} {x2 : Int32} {M : Mm} {v : Int32} (hE : Has shC (eH E)) (h : f_X8_stands_1_s5 x2 M = some v) : MetA l yX8_stands cX8_stands 4 (some .boolean) 5 E [.ref (eA E 1), .ref (eX E 6), .int x2] M (some (.int v)) M := by
  refine MetA.of (by decide +kernel) (Nat.le_of_ble_eq_true rfl) ?_
  intro p e s m below meth c C hr hnm
  exact G.sub [0, 1, 2] rfl (gb_X8_stands_1_s5_0 hE C hr  h)
def bb_X8_stands_1_s6_21 (k_21 : Int32 → Int32 → Mm → Option Int32) (x2 : Int32) (x3 : Int32) (M : Mm) : Option Int32 := if (4 : Int32) ≤ x3 then (some (1 : Int32)) else (if (M.1 1 3) ≤ (x2 + x3) then (some (1 : Int32)) else (gd (inb (x2 + x3) 500) (gd (inb x3 4) (if (M.1 2 (ix (x2 + x3))) = (strC 6 (ix x3)) then (ltv (x3 + (1 : Int32)) fun x3_3 => k_21 x2 x3_3 M) else (some (0 : Int32))))))
set_option maxHeartbeats 4000000 in
set_option maxRecDepth 100000 in
theorem gb_X8_stands_1_s6_21  {k_21 : Int32 → Int32 → Mm → Option Int32} {x2 : Int32} {x3 : Int32} {M : Mm} {v : Int32} (hE : Has shC (eH E)) (C : Cx RX8 cX8_stands 4 p (rmD 5) s m args meth c E) (hr : meth.sig.returnType = (some .boolean)) (hk_21 : ∀ (x2 : Int32) (x3 : Int32) (M : Mm), k_21 x2 x3 M = some v → G p l e (rmD 5) s m args below meth c E 4 0 0 (QR below args s E 0 0 (some (.int v)) M) 21 [(0, .ref (eA E 1)), (1, .ref (eX E 7)), (2, .int x2), (3, .int x3)] [] M) (h : bb_X8_stands_1_s6_21 k_21 x2 x3 M = some v) : G p l e (rmD 5) s m args below meth c E 4 0 0 (QR below args s E 0 0 (some (.int v)) M) 21 [(0, .ref (eA E 1)), (1, .ref (eX E 7)), (2, .int x2), (3, .int x3)] [] M := by
  unfold bb_X8_stands_1_s6_21 at h
  refine G.iload_n C 3 dX8_stands_21 rfl rfl ?_
  refine G.aload_n C 1 dX8_stands_22 rfl rfl ?_
  refine G.slen (rest := [.int x3]) (v := (4 : Int32)) 6 C (by decide) (by decide) tg_737 (Nat.le_of_ble_eq_true rfl) dX8_stands_23 ⟨Nat.le_of_ble_eq_true rfl, Nat.le_of_ble_eq_true rfl⟩ ⟨Nat.le_refl 0, Nat.le_refl 0⟩ ?_
  refine G.icmp_ge (tgt := 63) C dX8_stands_26 (by decide) (fun hc => ?_) (fun hc => ?_)
  · have h := it_t h hc
    refine G.iconst (v := (1 : Int32)) C dX8_stands_63 (by decide) ?_
    cases h
    exact G.zret C hr rfl dX8_stands_64
  · have h := it_f h hc
    refine G.iload_n C 2 dX8_stands_29 rfl rfl ?_
    refine G.iload_n C 3 dX8_stands_30 rfl rfl ?_
    refine G.iadd C dX8_stands_31 ?_
    refine G.aload_n C 0 dX8_stands_32 rfl rfl ?_
    refine G.getI (k := 3) C k_X8 (sc_1 hE) rfl (by decide) tg_199 dX8_stands_33 ?_
    refine G.icmp_ge (tgt := 63) C dX8_stands_36 (by decide) (fun hc => ?_) (fun hc => ?_)
    · have h := it_t h hc
      refine G.iconst (v := (1 : Int32)) C dX8_stands_63 (by decide) ?_
      cases h
      exact G.zret C hr rfl dX8_stands_64
    · have h := it_f h hc
      refine G.aload_n C 0 dX8_stands_39 rfl rfl ?_
      refine G.getR (k := 0) C k_X8 (sc_1 hE) rfl (by decide) tg_194 dX8_stands_40 ?_
      refine G.iload_n C 2 dX8_stands_43 rfl rfl ?_
      refine G.iload_n C 3 dX8_stands_44 rfl rfl ?_
      refine G.iadd C dX8_stands_45 ?_
      obtain ⟨hg_1, h⟩ := gd_ex h
      refine G.aI (j := ix (x2 + x3)) C (sc_2 hE) hg_1 rfl dX8_stands_46 ?_
      refine G.aload_n C 1 dX8_stands_47 rfl rfl ?_
      refine G.iload_n C 3 dX8_stands_48 rfl rfl ?_
      obtain ⟨hg_2, h⟩ := gd_ex h
      refine G.schr (rest := [.int (M.1 2 (ix (x2 + x3)))]) 6 C (by decide) hg_2 tg_747 (Nat.le_of_ble_eq_true rfl) dX8_stands_49 ⟨Nat.le_of_ble_eq_true rfl, Nat.le_of_ble_eq_true rfl⟩ ⟨Nat.le_refl 0, Nat.le_refl 0⟩ ?_
      refine G.icmp_eq (tgt := 57) C dX8_stands_52 (by decide) (fun hc => ?_) (fun hc => ?_)
      · have h := it_t h hc
        obtain ⟨x3_3, ex3_3, h⟩ := ltv_ex h
        refine G.iinc (L' := [(3, .int x3_3), (0, .ref (eA E 1)), (1, .ref (eX E 7)), (2, .int x2)]) C 3 dX8_stands_57 rfl (ex3_3.trans rfl) (by decide) rfl ?_
        refine G.goto (tgt := 21) C dX8_stands_60 (by decide) ?_
        exact G.sub [1, 2, 3, 0] rfl (hk_21 _ _ _  h)
      · have h := it_f h hc
        refine G.iconst (v := (0 : Int32)) C dX8_stands_55 (by decide) ?_
        cases h
        exact G.zret C hr rfl dX8_stands_56
def b_X8_stands_1_s6_21 : Nat → Int32 → Int32 → Mm → Option Int32
  | 0, _, _, _ => none
  | n + 1, x2, x3, M => bb_X8_stands_1_s6_21 (b_X8_stands_1_s6_21 n) x2 x3 M
set_option maxHeartbeats 4000000 in
theorem g_X8_stands_1_s6_21  {n : Nat} {x2 : Int32} {x3 : Int32} {M : Mm} {v : Int32} (hE : Has shC (eH E)) (C : Cx RX8 cX8_stands 4 p (rmD 5) s m args meth c E) (hr : meth.sig.returnType = (some .boolean)) (h : b_X8_stands_1_s6_21 n x2 x3 M = some v) : G p l e (rmD 5) s m args below meth c E 4 0 0 (QR below args s E 0 0 (some (.int v)) M) 21 [(0, .ref (eA E 1)), (1, .ref (eX E 7)), (2, .int x2), (3, .int x3)] [] M := by
  induction n generalizing x2 x3 M with
  | zero => cases h
  | succ n ih => exact gb_X8_stands_1_s6_21 hE C hr (fun _ _ _ => ih)  h
def bb_X8_stands_1_s6_0 (x2 : Int32) (M : Mm) : Option Int32 := if x2 < 0 then (some (0 : Int32)) else (if ((M.1 1 4) - x2) = (4 : Int32) then (b_X8_stands_1_s6_21 FU x2 (0 : Int32) M) else (some (0 : Int32)))
set_option maxHeartbeats 4000000 in
set_option maxRecDepth 100000 in
theorem gb_X8_stands_1_s6_0  {x2 : Int32} {M : Mm} {v : Int32} (hE : Has shC (eH E)) (C : Cx RX8 cX8_stands 4 p (rmD 5) s m args meth c E) (hr : meth.sig.returnType = (some .boolean)) (h : bb_X8_stands_1_s6_0 x2 M = some v) : G p l e (rmD 5) s m args below meth c E 4 0 0 (QR below args s E 0 0 (some (.int v)) M) 0 [(0, .ref (eA E 1)), (1, .ref (eX E 7)), (2, .int x2)] [] M := by
  unfold bb_X8_stands_1_s6_0 at h
  refine G.iload_n C 2 dX8_stands_0 rfl rfl ?_
  refine G.if_lt (tgt := 17) C dX8_stands_1 (by decide) (fun hc => ?_) (fun hc => ?_)
  · have h := it_t h hc
    refine G.iconst (v := (0 : Int32)) C dX8_stands_17 (by decide) ?_
    cases h
    exact G.zret C hr rfl dX8_stands_18
  · have h := it_f h hc
    refine G.aload_n C 0 dX8_stands_4 rfl rfl ?_
    refine G.getI (k := 4) C k_X8 (sc_1 hE) rfl (by decide) tg_200 dX8_stands_5 ?_
    refine G.iload_n C 2 dX8_stands_8 rfl rfl ?_
    refine G.isub C dX8_stands_9 ?_
    refine G.aload_n C 1 dX8_stands_10 rfl rfl ?_
    refine G.slen (rest := [.int ((M.1 1 4) - x2)]) (v := (4 : Int32)) 6 C (by decide) (by decide) tg_737 (Nat.le_of_ble_eq_true rfl) dX8_stands_11 ⟨Nat.le_of_ble_eq_true rfl, Nat.le_of_ble_eq_true rfl⟩ ⟨Nat.le_refl 0, Nat.le_refl 0⟩ ?_
    refine G.icmp_eq (tgt := 19) C dX8_stands_14 (by decide) (fun hc => ?_) (fun hc => ?_)
    · have h := it_t h hc
      refine G.iconst (v := (0 : Int32)) C dX8_stands_19 (by decide) ?_
      refine G.istore_n (L' := [(3, .int (0 : Int32)), (0, .ref (eA E 1)), (1, .ref (eX E 7)), (2, .int x2)]) C dX8_stands_20 rfl rfl (by decide) rfl ?_
      exact G.sub [1, 2, 3, 0] rfl (g_X8_stands_1_s6_21 hE C hr  h)
    · have h := it_f h hc
      refine G.iconst (v := (0 : Int32)) C dX8_stands_17 (by decide) ?_
      cases h
      exact G.zret C hr rfl dX8_stands_18
def f_X8_stands_1_s6 (x2 : Int32) (M : Mm) : Option Int32 := bb_X8_stands_1_s6_0 x2 M
theorem s_X8_stands_1_s6 {l : Launch} {E : Ev} {x2 : Int32} {M : Mm} {v : Int32} (hE : Has shC (eH E)) (h : f_X8_stands_1_s6 x2 M = some v) : MetA l yX8_stands cX8_stands 4 (some .boolean) 5 E [.ref (eA E 1), .ref (eX E 7), .int x2] M (some (.int v)) M := by
  refine MetA.of (by decide +kernel) (Nat.le_of_ble_eq_true rfl) ?_
  intro p e s m below meth c C hr hnm
  exact G.sub [0, 1, 2] rfl (gb_X8_stands_1_s6_0 hE C hr  h)
def bb_X8_stands_1_s7_21 (k_21 : Int32 → Int32 → Mm → Option Int32) (x2 : Int32) (x3 : Int32) (M : Mm) : Option Int32 := if (6 : Int32) ≤ x3 then (some (1 : Int32)) else (if (M.1 1 3) ≤ (x2 + x3) then (some (1 : Int32)) else (gd (inb (x2 + x3) 500) (gd (inb x3 6) (if (M.1 2 (ix (x2 + x3))) = (strC 7 (ix x3)) then (ltv (x3 + (1 : Int32)) fun x3_3 => k_21 x2 x3_3 M) else (some (0 : Int32))))))
set_option maxHeartbeats 4000000 in
set_option maxRecDepth 100000 in
theorem gb_X8_stands_1_s7_21  {k_21 : Int32 → Int32 → Mm → Option Int32} {x2 : Int32} {x3 : Int32} {M : Mm} {v : Int32} (hE : Has shC (eH E)) (C : Cx RX8 cX8_stands 4 p (rmD 5) s m args meth c E) (hr : meth.sig.returnType = (some .boolean)) (hk_21 : ∀ (x2 : Int32) (x3 : Int32) (M : Mm), k_21 x2 x3 M = some v → G p l e (rmD 5) s m args below meth c E 4 0 0 (QR below args s E 0 0 (some (.int v)) M) 21 [(0, .ref (eA E 1)), (1, .ref (eX E 8)), (2, .int x2), (3, .int x3)] [] M) (h : bb_X8_stands_1_s7_21 k_21 x2 x3 M = some v) : G p l e (rmD 5) s m args below meth c E 4 0 0 (QR below args s E 0 0 (some (.int v)) M) 21 [(0, .ref (eA E 1)), (1, .ref (eX E 8)), (2, .int x2), (3, .int x3)] [] M := by
  unfold bb_X8_stands_1_s7_21 at h
  refine G.iload_n C 3 dX8_stands_21 rfl rfl ?_
  refine G.aload_n C 1 dX8_stands_22 rfl rfl ?_
  refine G.slen (rest := [.int x3]) (v := (6 : Int32)) 7 C (by decide) (by decide) tg_737 (Nat.le_of_ble_eq_true rfl) dX8_stands_23 ⟨Nat.le_of_ble_eq_true rfl, Nat.le_of_ble_eq_true rfl⟩ ⟨Nat.le_refl 0, Nat.le_refl 0⟩ ?_
  refine G.icmp_ge (tgt := 63) C dX8_stands_26 (by decide) (fun hc => ?_) (fun hc => ?_)
  · have h := it_t h hc
    refine G.iconst (v := (1 : Int32)) C dX8_stands_63 (by decide) ?_
    cases h
    exact G.zret C hr rfl dX8_stands_64
  · have h := it_f h hc
    refine G.iload_n C 2 dX8_stands_29 rfl rfl ?_
    refine G.iload_n C 3 dX8_stands_30 rfl rfl ?_
    refine G.iadd C dX8_stands_31 ?_
    refine G.aload_n C 0 dX8_stands_32 rfl rfl ?_
    refine G.getI (k := 3) C k_X8 (sc_1 hE) rfl (by decide) tg_199 dX8_stands_33 ?_
    refine G.icmp_ge (tgt := 63) C dX8_stands_36 (by decide) (fun hc => ?_) (fun hc => ?_)
    · have h := it_t h hc
      refine G.iconst (v := (1 : Int32)) C dX8_stands_63 (by decide) ?_
      cases h
      exact G.zret C hr rfl dX8_stands_64
    · have h := it_f h hc
      refine G.aload_n C 0 dX8_stands_39 rfl rfl ?_
      refine G.getR (k := 0) C k_X8 (sc_1 hE) rfl (by decide) tg_194 dX8_stands_40 ?_
      refine G.iload_n C 2 dX8_stands_43 rfl rfl ?_
      refine G.iload_n C 3 dX8_stands_44 rfl rfl ?_
      refine G.iadd C dX8_stands_45 ?_
      obtain ⟨hg_1, h⟩ := gd_ex h
      refine G.aI (j := ix (x2 + x3)) C (sc_2 hE) hg_1 rfl dX8_stands_46 ?_
      refine G.aload_n C 1 dX8_stands_47 rfl rfl ?_
      refine G.iload_n C 3 dX8_stands_48 rfl rfl ?_
      obtain ⟨hg_2, h⟩ := gd_ex h
      refine G.schr (rest := [.int (M.1 2 (ix (x2 + x3)))]) 7 C (by decide) hg_2 tg_747 (Nat.le_of_ble_eq_true rfl) dX8_stands_49 ⟨Nat.le_of_ble_eq_true rfl, Nat.le_of_ble_eq_true rfl⟩ ⟨Nat.le_refl 0, Nat.le_refl 0⟩ ?_
      refine G.icmp_eq (tgt := 57) C dX8_stands_52 (by decide) (fun hc => ?_) (fun hc => ?_)
      · have h := it_t h hc
        obtain ⟨x3_3, ex3_3, h⟩ := ltv_ex h
        refine G.iinc (L' := [(3, .int x3_3), (0, .ref (eA E 1)), (1, .ref (eX E 8)), (2, .int x2)]) C 3 dX8_stands_57 rfl (ex3_3.trans rfl) (by decide) rfl ?_
        refine G.goto (tgt := 21) C dX8_stands_60 (by decide) ?_
        exact G.sub [1, 2, 3, 0] rfl (hk_21 _ _ _  h)
      · have h := it_f h hc
        refine G.iconst (v := (0 : Int32)) C dX8_stands_55 (by decide) ?_
        cases h
        exact G.zret C hr rfl dX8_stands_56
def b_X8_stands_1_s7_21 : Nat → Int32 → Int32 → Mm → Option Int32
  | 0, _, _, _ => none
  | n + 1, x2, x3, M => bb_X8_stands_1_s7_21 (b_X8_stands_1_s7_21 n) x2 x3 M
set_option maxHeartbeats 4000000 in
theorem g_X8_stands_1_s7_21  {n : Nat} {x2 : Int32} {x3 : Int32} {M : Mm} {v : Int32} (hE : Has shC (eH E)) (C : Cx RX8 cX8_stands 4 p (rmD 5) s m args meth c E) (hr : meth.sig.returnType = (some .boolean)) (h : b_X8_stands_1_s7_21 n x2 x3 M = some v) : G p l e (rmD 5) s m args below meth c E 4 0 0 (QR below args s E 0 0 (some (.int v)) M) 21 [(0, .ref (eA E 1)), (1, .ref (eX E 8)), (2, .int x2), (3, .int x3)] [] M := by
  induction n generalizing x2 x3 M with
  | zero => cases h
  | succ n ih => exact gb_X8_stands_1_s7_21 hE C hr (fun _ _ _ => ih)  h
def bb_X8_stands_1_s7_0 (x2 : Int32) (M : Mm) : Option Int32 := if x2 < 0 then (some (0 : Int32)) else (if ((M.1 1 4) - x2) = (6 : Int32) then (b_X8_stands_1_s7_21 FU x2 (0 : Int32) M) else (some (0 : Int32)))
set_option maxHeartbeats 4000000 in
set_option maxRecDepth 100000 in
theorem gb_X8_stands_1_s7_0  {x2 : Int32} {M : Mm} {v : Int32} (hE : Has shC (eH E)) (C : Cx RX8 cX8_stands 4 p (rmD 5) s m args meth c E) (hr : meth.sig.returnType = (some .boolean)) (h : bb_X8_stands_1_s7_0 x2 M = some v) : G p l e (rmD 5) s m args below meth c E 4 0 0 (QR below args s E 0 0 (some (.int v)) M) 0 [(0, .ref (eA E 1)), (1, .ref (eX E 8)), (2, .int x2)] [] M := by
  unfold bb_X8_stands_1_s7_0 at h
  refine G.iload_n C 2 dX8_stands_0 rfl rfl ?_
  refine G.if_lt (tgt := 17) C dX8_stands_1 (by decide) (fun hc => ?_) (fun hc => ?_)
  · have h := it_t h hc
    refine G.iconst (v := (0 : Int32)) C dX8_stands_17 (by decide) ?_
    cases h
    exact G.zret C hr rfl dX8_stands_18
  · have h := it_f h hc
    refine G.aload_n C 0 dX8_stands_4 rfl rfl ?_
    refine G.getI (k := 4) C k_X8 (sc_1 hE) rfl (by decide) tg_200 dX8_stands_5 ?_
    refine G.iload_n C 2 dX8_stands_8 rfl rfl ?_
    refine G.isub C dX8_stands_9 ?_
    refine G.aload_n C 1 dX8_stands_10 rfl rfl ?_
    refine G.slen (rest := [.int ((M.1 1 4) - x2)]) (v := (6 : Int32)) 7 C (by decide) (by decide) tg_737 (Nat.le_of_ble_eq_true rfl) dX8_stands_11 ⟨Nat.le_of_ble_eq_true rfl, Nat.le_of_ble_eq_true rfl⟩ ⟨Nat.le_refl 0, Nat.le_refl 0⟩ ?_
    refine G.icmp_eq (tgt := 19) C dX8_stands_14 (by decide) (fun hc => ?_) (fun hc => ?_)
    · have h := it_t h hc
      refine G.iconst (v := (0 : Int32)) C dX8_stands_19 (by decide) ?_
      refine G.istore_n (L' := [(3, .int (0 : Int32)), (0, .ref (eA E 1)), (1, .ref (eX E 8)), (2, .int x2)]) C dX8_stands_20 rfl rfl (by decide) rfl ?_
      exact G.sub [1, 2, 3, 0] rfl (g_X8_stands_1_s7_21 hE C hr  h)
    · have h := it_f h hc
      refine G.iconst (v := (0 : Int32)) C dX8_stands_17 (by decide) ?_
      cases h
      exact G.zret C hr rfl dX8_stands_18
def f_X8_stands_1_s7 (x2 : Int32) (M : Mm) : Option Int32 := bb_X8_stands_1_s7_0 x2 M
theorem s_X8_stands_1_s7 {l : Launch} {E : Ev} {x2 : Int32} {M : Mm} {v : Int32} (hE : Has shC (eH E)) (h : f_X8_stands_1_s7 x2 M = some v) : MetA l yX8_stands cX8_stands 4 (some .boolean) 5 E [.ref (eA E 1), .ref (eX E 8), .int x2] M (some (.int v)) M := by
  refine MetA.of (by decide +kernel) (Nat.le_of_ble_eq_true rfl) ?_
  intro p e s m below meth c C hr hnm
  exact G.sub [0, 1, 2] rfl (gb_X8_stands_1_s7_0 hE C hr  h)
def bb_X8_readKeyword_1_48 (x1 : Int32) (M : Mm) : Option (Int32 × Mm) := bd (f_X8_stands_1_s0 x1 M) fun v_9 => if v_9 = 0 then (bd (f_X8_stands_1_s1 x1 M) fun v_11 => if v_11 = 0 then (bd (f_X8_stands_1_s2 x1 M) fun v_13 => if v_13 = 0 then (bd (f_X8_stands_1_s3 x1 M) fun v_15 => if v_15 = 0 then (bd (f_X8_stands_1_s4 x1 M) fun v_17 => if v_17 = 0 then (bd (f_X8_stands_1_s5 x1 M) fun v_19 => if v_19 = 0 then (bd (f_X8_stands_1_s6 x1 M) fun v_21 => if v_21 = 0 then (bd (f_X8_stands_1_s7 x1 M) fun v_23 => if v_23 = 0 then (some ((-1 : Int32), M)) else (some ((7 : Int32), M))) else (some ((6 : Int32), M))) else (some ((5 : Int32), M))) else (some ((4 : Int32), M))) else (some ((3 : Int32), M))) else (some ((2 : Int32), M))) else (some ((1 : Int32), M))) else (some ((0 : Int32), M))
set_option maxHeartbeats 4000000 in
set_option maxRecDepth 100000 in
theorem gb_X8_readKeyword_1_48  {x1 : Int32} {M : Mm} {v : Int32} {M' : Mm} (hE : Has shC (eH E)) (C : Cx RX8 cX8_readKeyword 3 p (rmD 6) s m args meth c E) (hr : meth.sig.returnType = (some .int)) (h : bb_X8_readKeyword_1_48 x1 M = some (v, M')) : G p l e (rmD 6) s m args below meth c E 3 0 0 (QR below args s E 0 0 (some (.int v)) M') 48 [(0, .ref (eA E 1)), (1, .int x1)] [] M := by
  unfold bb_X8_readKeyword_1_48 at h
  refine G.aload_n C 0 dX8_readKeyword_48 rfl rfl ?_
  refine G.ldcS C 0 rfl dX8_readKeyword_49 ?_
  refine G.iload_n C 1 dX8_readKeyword_51 rfl rfl ?_
  obtain ⟨v_9, hv_8, h⟩ := bd_ex h
  refine G.callV (rest := []) C (s_X8_stands_1_s0 hE  hv_8) ⟨tg_736, tg_91, ok_X8_stands, Nat.le_of_ble_eq_true rfl, Nat.le_of_ble_eq_true rfl⟩ tg_733 tg_735 tg_11 (sc_1 hE) rfl rfl (Nat.le_of_ble_eq_true rfl) dX8_readKeyword_52 ⟨Nat.le_refl 0, Nat.le_refl 0⟩ ?_
  refine G.if_eq (tgt := 60) C dX8_readKeyword_55 (by decide) (fun hc => ?_) (fun hc => ?_)
  · have h := it_t h hc
    refine G.aload_n C 0 dX8_readKeyword_60 rfl rfl ?_
    refine G.ldcS C 1 rfl dX8_readKeyword_61 ?_
    refine G.iload_n C 1 dX8_readKeyword_63 rfl rfl ?_
    obtain ⟨v_11, hv_10, h⟩ := bd_ex h
    refine G.callV (rest := []) C (s_X8_stands_1_s1 hE  hv_10) ⟨tg_736, tg_91, ok_X8_stands, Nat.le_of_ble_eq_true rfl, Nat.le_of_ble_eq_true rfl⟩ tg_733 tg_735 tg_11 (sc_1 hE) rfl rfl (Nat.le_of_ble_eq_true rfl) dX8_readKeyword_64 ⟨Nat.le_refl 0, Nat.le_refl 0⟩ ?_
    refine G.if_eq (tgt := 72) C dX8_readKeyword_67 (by decide) (fun hc => ?_) (fun hc => ?_)
    · have h := it_t h hc
      refine G.aload_n C 0 dX8_readKeyword_72 rfl rfl ?_
      refine G.ldcS C 2 rfl dX8_readKeyword_73 ?_
      refine G.iload_n C 1 dX8_readKeyword_75 rfl rfl ?_
      obtain ⟨v_13, hv_12, h⟩ := bd_ex h
      refine G.callV (rest := []) C (s_X8_stands_1_s2 hE  hv_12) ⟨tg_736, tg_91, ok_X8_stands, Nat.le_of_ble_eq_true rfl, Nat.le_of_ble_eq_true rfl⟩ tg_733 tg_735 tg_11 (sc_1 hE) rfl rfl (Nat.le_of_ble_eq_true rfl) dX8_readKeyword_76 ⟨Nat.le_refl 0, Nat.le_refl 0⟩ ?_
      refine G.if_eq (tgt := 84) C dX8_readKeyword_79 (by decide) (fun hc => ?_) (fun hc => ?_)
      · have h := it_t h hc
        refine G.aload_n C 0 dX8_readKeyword_84 rfl rfl ?_
        refine G.ldcS C 3 rfl dX8_readKeyword_85 ?_
        refine G.iload_n C 1 dX8_readKeyword_87 rfl rfl ?_
        obtain ⟨v_15, hv_14, h⟩ := bd_ex h
        refine G.callV (rest := []) C (s_X8_stands_1_s3 hE  hv_14) ⟨tg_736, tg_91, ok_X8_stands, Nat.le_of_ble_eq_true rfl, Nat.le_of_ble_eq_true rfl⟩ tg_733 tg_735 tg_11 (sc_1 hE) rfl rfl (Nat.le_of_ble_eq_true rfl) dX8_readKeyword_88 ⟨Nat.le_refl 0, Nat.le_refl 0⟩ ?_
        refine G.if_eq (tgt := 96) C dX8_readKeyword_91 (by decide) (fun hc => ?_) (fun hc => ?_)
        · have h := it_t h hc
          refine G.aload_n C 0 dX8_readKeyword_96 rfl rfl ?_
          refine G.ldcS C 4 rfl dX8_readKeyword_97 ?_
          refine G.iload_n C 1 dX8_readKeyword_99 rfl rfl ?_
          obtain ⟨v_17, hv_16, h⟩ := bd_ex h
          refine G.callV (rest := []) C (s_X8_stands_1_s4 hE  hv_16) ⟨tg_736, tg_91, ok_X8_stands, Nat.le_of_ble_eq_true rfl, Nat.le_of_ble_eq_true rfl⟩ tg_733 tg_735 tg_11 (sc_1 hE) rfl rfl (Nat.le_of_ble_eq_true rfl) dX8_readKeyword_100 ⟨Nat.le_refl 0, Nat.le_refl 0⟩ ?_
          refine G.if_eq (tgt := 108) C dX8_readKeyword_103 (by decide) (fun hc => ?_) (fun hc => ?_)
          · have h := it_t h hc
            refine G.aload_n C 0 dX8_readKeyword_108 rfl rfl ?_
            refine G.ldcS C 5 rfl dX8_readKeyword_109 ?_
            refine G.iload_n C 1 dX8_readKeyword_111 rfl rfl ?_
            obtain ⟨v_19, hv_18, h⟩ := bd_ex h
            refine G.callV (rest := []) C (s_X8_stands_1_s5 hE  hv_18) ⟨tg_736, tg_91, ok_X8_stands, Nat.le_of_ble_eq_true rfl, Nat.le_of_ble_eq_true rfl⟩ tg_733 tg_735 tg_11 (sc_1 hE) rfl rfl (Nat.le_of_ble_eq_true rfl) dX8_readKeyword_112 ⟨Nat.le_refl 0, Nat.le_refl 0⟩ ?_
            refine G.if_eq (tgt := 120) C dX8_readKeyword_115 (by decide) (fun hc => ?_) (fun hc => ?_)
            · have h := it_t h hc
              refine G.aload_n C 0 dX8_readKeyword_120 rfl rfl ?_
              refine G.ldcS C 6 rfl dX8_readKeyword_121 ?_
              refine G.iload_n C 1 dX8_readKeyword_123 rfl rfl ?_
              obtain ⟨v_21, hv_20, h⟩ := bd_ex h
              refine G.callV (rest := []) C (s_X8_stands_1_s6 hE  hv_20) ⟨tg_736, tg_91, ok_X8_stands, Nat.le_of_ble_eq_true rfl, Nat.le_of_ble_eq_true rfl⟩ tg_733 tg_735 tg_11 (sc_1 hE) rfl rfl (Nat.le_of_ble_eq_true rfl) dX8_readKeyword_124 ⟨Nat.le_refl 0, Nat.le_refl 0⟩ ?_
              refine G.if_eq (tgt := 133) C dX8_readKeyword_127 (by decide) (fun hc => ?_) (fun hc => ?_)
              · have h := it_t h hc
                refine G.aload_n C 0 dX8_readKeyword_133 rfl rfl ?_
                refine G.ldcS C 7 rfl dX8_readKeyword_134 ?_
                refine G.iload_n C 1 dX8_readKeyword_136 rfl rfl ?_
                obtain ⟨v_23, hv_22, h⟩ := bd_ex h
                refine G.callV (rest := []) C (s_X8_stands_1_s7 hE  hv_22) ⟨tg_736, tg_91, ok_X8_stands, Nat.le_of_ble_eq_true rfl, Nat.le_of_ble_eq_true rfl⟩ tg_733 tg_735 tg_11 (sc_1 hE) rfl rfl (Nat.le_of_ble_eq_true rfl) dX8_readKeyword_137 ⟨Nat.le_refl 0, Nat.le_refl 0⟩ ?_
                refine G.if_eq (tgt := 148) C dX8_readKeyword_140 (by decide) (fun hc => ?_) (fun hc => ?_)
                · have h := it_t h hc
                  refine G.iconst (v := (-1 : Int32)) C dX8_readKeyword_148 (by decide) ?_
                  cases h
                  exact G.iret C hr dX8_readKeyword_149
                · have h := it_f h hc
                  refine G.bipush (v := (7 : Int32)) C dX8_readKeyword_143 (by decide) ?_
                  refine G.goto (tgt := 149) C dX8_readKeyword_145 (by decide) ?_
                  cases h
                  exact G.iret C hr dX8_readKeyword_149
              · have h := it_f h hc
                refine G.bipush (v := (6 : Int32)) C dX8_readKeyword_130 (by decide) ?_
                cases h
                exact G.iret C hr dX8_readKeyword_132
            · have h := it_f h hc
              refine G.iconst (v := (5 : Int32)) C dX8_readKeyword_118 (by decide) ?_
              cases h
              exact G.iret C hr dX8_readKeyword_119
          · have h := it_f h hc
            refine G.iconst (v := (4 : Int32)) C dX8_readKeyword_106 (by decide) ?_
            cases h
            exact G.iret C hr dX8_readKeyword_107
        · have h := it_f h hc
          refine G.iconst (v := (3 : Int32)) C dX8_readKeyword_94 (by decide) ?_
          cases h
          exact G.iret C hr dX8_readKeyword_95
      · have h := it_f h hc
        refine G.iconst (v := (2 : Int32)) C dX8_readKeyword_82 (by decide) ?_
        cases h
        exact G.iret C hr dX8_readKeyword_83
    · have h := it_f h hc
      refine G.iconst (v := (1 : Int32)) C dX8_readKeyword_70 (by decide) ?_
      cases h
      exact G.iret C hr dX8_readKeyword_71
  · have h := it_f h hc
    refine G.iconst (v := (0 : Int32)) C dX8_readKeyword_58 (by decide) ?_
    cases h
    exact G.iret C hr dX8_readKeyword_59
def bb_X8_readKeyword_1_7 (k_7 : Int32 → Int32 → Mm → Option (Int32 × Mm)) (x1 : Int32) (x2 : Int32) (M : Mm) : Option (Int32 × Mm) := if (500 : Int32) ≤ x2 then (bb_X8_readKeyword_1_48 x1 M) else (bd (f_X8_here_1 M) fun v_3 => if v_3 < (97 : Int32) then (bb_X8_readKeyword_1_48 x1 M) else (bd (f_X8_here_1 M) fun v_5 => if (122 : Int32) < v_5 then (bb_X8_readKeyword_1_48 x1 M) else (ltv (wI M 1 4 ((M.1 1 4) + (1 : Int32))) fun M_6 => ltv (x2 + (1 : Int32)) fun x2_7 => k_7 x1 x2_7 M_6)))
set_option maxHeartbeats 4000000 in
set_option maxRecDepth 100000 in
theorem gb_X8_readKeyword_1_7  {k_7 : Int32 → Int32 → Mm → Option (Int32 × Mm)} {x1 : Int32} {x2 : Int32} {M : Mm} {v : Int32} {M' : Mm} (hE : Has shC (eH E)) (C : Cx RX8 cX8_readKeyword 3 p (rmD 6) s m args meth c E) (hr : meth.sig.returnType = (some .int)) (hk_7 : ∀ (x1 : Int32) (x2 : Int32) (M : Mm), k_7 x1 x2 M = some (v, M') → G p l e (rmD 6) s m args below meth c E 3 0 0 (QR below args s E 0 0 (some (.int v)) M') 7 [(0, .ref (eA E 1)), (1, .int x1), (2, .int x2)] [] M) (h : bb_X8_readKeyword_1_7 k_7 x1 x2 M = some (v, M')) : G p l e (rmD 6) s m args below meth c E 3 0 0 (QR below args s E 0 0 (some (.int v)) M') 7 [(0, .ref (eA E 1)), (1, .int x1), (2, .int x2)] [] M := by
  unfold bb_X8_readKeyword_1_7 at h
  refine G.iload_n C 2 dX8_readKeyword_7 rfl rfl ?_
  refine G.sipush (v := (500 : Int32)) C dX8_readKeyword_8 (by decide) ?_
  refine G.icmp_ge (tgt := 48) C dX8_readKeyword_11 (by decide) (fun hc => ?_) (fun hc => ?_)
  · have h := it_t h hc
    exact G.sub [0, 1] rfl (gb_X8_readKeyword_1_48 hE C hr  h)
  · have h := it_f h hc
    refine G.aload_n C 0 dX8_readKeyword_14 rfl rfl ?_
    obtain ⟨v_3, hv_2, h⟩ := bd_ex h
    refine G.callV (rest := []) C (s_X8_here_1 hE  hv_2) ⟨tg_723, tg_91, ok_X8_here, Nat.le_of_ble_eq_true rfl, Nat.le_of_ble_eq_true rfl⟩ tg_720 tg_722 tg_8 (sc_1 hE) rfl rfl (Nat.le_of_ble_eq_true rfl) dX8_readKeyword_15 ⟨Nat.le_refl 0, Nat.le_refl 0⟩ ?_
    refine G.bipush (v := (97 : Int32)) C dX8_readKeyword_18 (by decide) ?_
    refine G.icmp_lt (tgt := 48) C dX8_readKeyword_20 (by decide) (fun hc => ?_) (fun hc => ?_)
    · have h := it_t h hc
      exact G.sub [0, 1] rfl (gb_X8_readKeyword_1_48 hE C hr  h)
    · have h := it_f h hc
      refine G.aload_n C 0 dX8_readKeyword_23 rfl rfl ?_
      obtain ⟨v_5, hv_4, h⟩ := bd_ex h
      refine G.callV (rest := []) C (s_X8_here_1 hE  hv_4) ⟨tg_723, tg_91, ok_X8_here, Nat.le_of_ble_eq_true rfl, Nat.le_of_ble_eq_true rfl⟩ tg_720 tg_722 tg_8 (sc_1 hE) rfl rfl (Nat.le_of_ble_eq_true rfl) dX8_readKeyword_24 ⟨Nat.le_refl 0, Nat.le_refl 0⟩ ?_
      refine G.bipush (v := (122 : Int32)) C dX8_readKeyword_27 (by decide) ?_
      refine G.icmp_gt (tgt := 48) C dX8_readKeyword_29 (by decide) (fun hc => ?_) (fun hc => ?_)
      · have h := it_t h hc
        exact G.sub [0, 1] rfl (gb_X8_readKeyword_1_48 hE C hr  h)
      · have h := it_f h hc
        refine G.aload_n C 0 dX8_readKeyword_32 rfl rfl ?_
        refine G.dup C dX8_readKeyword_33 rfl ?_
        refine G.getI (k := 4) C k_X8 (sc_1 hE) rfl (by decide) tg_200 dX8_readKeyword_34 ?_
        refine G.iconst (v := (1 : Int32)) C dX8_readKeyword_37 (by decide) ?_
        refine G.iadd C dX8_readKeyword_38 ?_
        obtain ⟨M_6, eM_6, h⟩ := ltv_ex h
        refine G.putI (k := 4) C k_X8 (sc_1 hE) rfl (by decide) tg_200 rfl rfl dX8_readKeyword_39 eM_6 ?_
        obtain ⟨x2_7, ex2_7, h⟩ := ltv_ex h
        refine G.iinc (L' := [(2, .int x2_7), (0, .ref (eA E 1)), (1, .int x1)]) C 2 dX8_readKeyword_42 rfl (ex2_7.trans rfl) (by decide) rfl ?_
        refine G.goto (tgt := 7) C dX8_readKeyword_45 (by decide) ?_
        exact G.sub [1, 2, 0] rfl (hk_7 _ _ _  h)
def b_X8_readKeyword_1_7 : Nat → Int32 → Int32 → Mm → Option (Int32 × Mm)
  | 0, _, _, _ => none
  | n + 1, x1, x2, M => bb_X8_readKeyword_1_7 (b_X8_readKeyword_1_7 n) x1 x2 M
set_option maxHeartbeats 4000000 in
theorem g_X8_readKeyword_1_7  {n : Nat} {x1 : Int32} {x2 : Int32} {M : Mm} {v : Int32} {M' : Mm} (hE : Has shC (eH E)) (C : Cx RX8 cX8_readKeyword 3 p (rmD 6) s m args meth c E) (hr : meth.sig.returnType = (some .int)) (h : b_X8_readKeyword_1_7 n x1 x2 M = some (v, M')) : G p l e (rmD 6) s m args below meth c E 3 0 0 (QR below args s E 0 0 (some (.int v)) M') 7 [(0, .ref (eA E 1)), (1, .int x1), (2, .int x2)] [] M := by
  induction n generalizing x1 x2 M with
  | zero => cases h
  | succ n ih => exact gb_X8_readKeyword_1_7 hE C hr (fun _ _ _ => ih)  h
def bb_X8_readKeyword_1_0  (M : Mm) : Option (Int32 × Mm) := ltv (M.1 1 4) fun x1_1 => b_X8_readKeyword_1_7 FU x1_1 (0 : Int32) M
set_option maxHeartbeats 4000000 in
set_option maxRecDepth 100000 in
theorem gb_X8_readKeyword_1_0   {M : Mm} {v : Int32} {M' : Mm} (hE : Has shC (eH E)) (C : Cx RX8 cX8_readKeyword 3 p (rmD 6) s m args meth c E) (hr : meth.sig.returnType = (some .int)) (h : bb_X8_readKeyword_1_0 M = some (v, M')) : G p l e (rmD 6) s m args below meth c E 3 0 0 (QR below args s E 0 0 (some (.int v)) M') 0 [(0, .ref (eA E 1))] [] M := by
  unfold bb_X8_readKeyword_1_0 at h
  refine G.aload_n C 0 dX8_readKeyword_0 rfl rfl ?_
  refine G.getI (k := 4) C k_X8 (sc_1 hE) rfl (by decide) tg_200 dX8_readKeyword_1 ?_
  obtain ⟨x1_1, ex1_1, h⟩ := ltv_ex h
  refine G.istore_n (L' := [(1, .int x1_1), (0, .ref (eA E 1))]) C dX8_readKeyword_4 rfl ex1_1 (by decide) rfl ?_
  refine G.iconst (v := (0 : Int32)) C dX8_readKeyword_5 (by decide) ?_
  refine G.istore_n (L' := [(2, .int (0 : Int32)), (1, .int x1_1), (0, .ref (eA E 1))]) C dX8_readKeyword_6 rfl rfl (by decide) rfl ?_
  exact G.sub [2, 1, 0] rfl (g_X8_readKeyword_1_7 hE C hr  h)
def f_X8_readKeyword_1  (M : Mm) : Option (Int32 × Mm) := bb_X8_readKeyword_1_0 M
theorem s_X8_readKeyword_1 {l : Launch} {E : Ev}  {M : Mm} {v : Int32} {M' : Mm} (hE : Has shC (eH E)) (h : f_X8_readKeyword_1 M = some (v, M')) : MetA l yX8_readKeyword cX8_readKeyword 3 (some .int) 6 E [.ref (eA E 1)] M (some (.int v)) M' := by
  refine MetA.of (by decide +kernel) (Nat.le_of_ble_eq_true rfl) ?_
  intro p e s m below meth c C hr hnm
  exact G.sub [0] rfl (gb_X8_readKeyword_1_0 hE C hr  h)
def bb_X8_fail_1_0 (x1 : Int32) (x2 : Int32) (M : Mm) : Option Mm := if (M.1 1 5) = 0 then (ltv (wI M 1 5 x1) fun M_1 => ltv (wI M_1 1 6 x2) fun M_2 => some M_2) else (some M)
set_option maxHeartbeats 4000000 in
set_option maxRecDepth 100000 in
theorem gb_X8_fail_1_0  {x1 : Int32} {x2 : Int32} {M : Mm} {M' : Mm} (hE : Has shC (eH E)) (C : Cx RX8 cX8_fail 3 p (rmD 1) s m args meth c E) (hr : meth.sig.returnType = none) (h : bb_X8_fail_1_0 x1 x2 M = some M') : G p l e (rmD 1) s m args below meth c E 3 0 0 (QR below args s E 0 0 none M') 0 [(0, .ref (eA E 1)), (1, .int x1), (2, .int x2)] [] M := by
  unfold bb_X8_fail_1_0 at h
  refine G.aload_n C 0 dX8_fail_0 rfl rfl ?_
  refine G.getI (k := 5) C k_X8 (sc_1 hE) rfl (by decide) tg_201 dX8_fail_1 ?_
  refine G.if_ne (tgt := 17) C dX8_fail_4 (by decide) (fun hc => ?_) (fun hc => ?_)
  · have h := it_f h hc
    cases h
    exact G.vret C hr dX8_fail_17
  · have h := it_t h hc
    refine G.aload_n C 0 dX8_fail_7 rfl rfl ?_
    refine G.iload_n C 1 dX8_fail_8 rfl rfl ?_
    obtain ⟨M_1, eM_1, h⟩ := ltv_ex h
    refine G.putI (k := 5) C k_X8 (sc_1 hE) rfl (by decide) tg_201 rfl rfl dX8_fail_9 eM_1 ?_
    refine G.aload_n C 0 dX8_fail_12 rfl rfl ?_
    refine G.iload_n C 2 dX8_fail_13 rfl rfl ?_
    obtain ⟨M_2, eM_2, h⟩ := ltv_ex h
    refine G.putI (k := 6) C k_X8 (sc_1 hE) rfl (by decide) tg_202 rfl rfl dX8_fail_14 eM_2 ?_
    cases h
    exact G.vret C hr dX8_fail_17
def f_X8_fail_1 (x1 : Int32) (x2 : Int32) (M : Mm) : Option Mm := bb_X8_fail_1_0 x1 x2 M
theorem s_X8_fail_1 {l : Launch} {E : Ev} {x1 : Int32} {x2 : Int32} {M : Mm} {M' : Mm} (hE : Has shC (eH E)) (h : f_X8_fail_1 x1 x2 M = some M') : MetA l yX8_fail cX8_fail 3 none 1 E [.ref (eA E 1), .int x1, .int x2] M none M' := by
  refine MetA.of (by decide +kernel) (Nat.le_of_ble_eq_true rfl) ?_
  intro p e s m below meth c C hr hnm
  exact G.sub [0, 1, 2] rfl (gb_X8_fail_1_0 hE C hr  h)
def bb_X8_isOneTooMany_1_43 (s0 : Int32) (M : Mm) : Option Int32 := if s0 = 0 then (some (0 : Int32)) else (if (M.1 3 7) < (10 : Int32) then (some (0 : Int32)) else (some (1 : Int32)))
set_option maxHeartbeats 4000000 in
set_option maxRecDepth 100000 in
theorem gb_X8_isOneTooMany_1_43  {s0 : Int32} {M : Mm} {v : Int32} (hE : Has shC (eH E)) (C : Cx RX8 cX8_isOneTooMany 3 p (rmD 1) s m args meth c E) (hr : meth.sig.returnType = (some .boolean)) (h : bb_X8_isOneTooMany_1_43 s0 M = some v) : G p l e (rmD 1) s m args below meth c E 3 0 0 (QR below args s E 0 0 (some (.int v)) M) 43 [(0, .ref (eA E 1))] [.int s0] M := by
  unfold bb_X8_isOneTooMany_1_43 at h
  refine G.istore_n (L' := [(2, .int s0), (0, .ref (eA E 1))]) C dX8_isOneTooMany_43 rfl rfl (by decide) rfl ?_
  refine G.iload_n C 0 dX8_isOneTooMany_44 rfl rfl ?_
  refine G.if_eq (tgt := 64) C dX8_isOneTooMany_45 (by decide) (fun hc => ?_) (fun hc => ?_)
  · have h := it_t h hc
    refine G.iconst (v := (0 : Int32)) C dX8_isOneTooMany_64 (by decide) ?_
    cases h
    exact G.zret C hr rfl dX8_isOneTooMany_65
  · have h := it_f h hc
    refine G.aload_n C 1 dX8_isOneTooMany_48 rfl rfl ?_
    refine G.getR (k := 1) C k_X8 (sc_1 hE) rfl (by decide) tg_195 dX8_isOneTooMany_49 ?_
    refine G.getIN (k := 7) C k_X7 (sc_3 hE) rfl (by decide) tw_160 dX8_isOneTooMany_52 ?_
    refine G.bipush (v := (10 : Int32)) C dX8_isOneTooMany_55 (by decide) ?_
    refine G.icmp_lt (tgt := 64) C dX8_isOneTooMany_57 (by decide) (fun hc => ?_) (fun hc => ?_)
    · have h := it_t h hc
      refine G.iconst (v := (0 : Int32)) C dX8_isOneTooMany_64 (by decide) ?_
      cases h
      exact G.zret C hr rfl dX8_isOneTooMany_65
    · have h := it_f h hc
      refine G.iconst (v := (1 : Int32)) C dX8_isOneTooMany_60 (by decide) ?_
      refine G.goto (tgt := 65) C dX8_isOneTooMany_61 (by decide) ?_
      cases h
      exact G.zret C hr rfl dX8_isOneTooMany_65
def bb_X8_isOneTooMany_1_38  (M : Mm) : Option Int32 := bb_X8_isOneTooMany_1_43 (1 : Int32) M
set_option maxHeartbeats 4000000 in
set_option maxRecDepth 100000 in
theorem gb_X8_isOneTooMany_1_38   {M : Mm} {v : Int32} (hE : Has shC (eH E)) (C : Cx RX8 cX8_isOneTooMany 3 p (rmD 1) s m args meth c E) (hr : meth.sig.returnType = (some .boolean)) (h : bb_X8_isOneTooMany_1_38 M = some v) : G p l e (rmD 1) s m args below meth c E 3 0 0 (QR below args s E 0 0 (some (.int v)) M) 38 [(0, .ref (eA E 1))] [] M := by
  unfold bb_X8_isOneTooMany_1_38 at h
  refine G.iconst (v := (1 : Int32)) C dX8_isOneTooMany_38 (by decide) ?_
  refine G.goto (tgt := 43) C dX8_isOneTooMany_39 (by decide) ?_
  exact G.sub [0] rfl (gb_X8_isOneTooMany_1_43 hE C hr  h)
def bb_X8_isOneTooMany_1_0 (x1 : Int32) (M : Mm) : Option Int32 := if x1 = (6 : Int32) then (if (M.1 3 8) < (6 : Int32) then (some (0 : Int32)) else (some (1 : Int32))) else (if x1 = 0 then (bb_X8_isOneTooMany_1_38 M) else (if x1 = (1 : Int32) then (bb_X8_isOneTooMany_1_38 M) else (if x1 = (2 : Int32) then (bb_X8_isOneTooMany_1_38 M) else (bb_X8_isOneTooMany_1_43 (0 : Int32) M))))
set_option maxHeartbeats 4000000 in
set_option maxRecDepth 100000 in
theorem gb_X8_isOneTooMany_1_0  {x1 : Int32} {M : Mm} {v : Int32} (hE : Has shC (eH E)) (C : Cx RX8 cX8_isOneTooMany 3 p (rmD 1) s m args meth c E) (hr : meth.sig.returnType = (some .boolean)) (h : bb_X8_isOneTooMany_1_0 x1 M = some v) : G p l e (rmD 1) s m args below meth c E 3 0 0 (QR below args s E 0 0 (some (.int v)) M) 0 [(0, .ref (eA E 1)), (1, .int x1)] [] M := by
  unfold bb_X8_isOneTooMany_1_0 at h
  refine G.iload_n C 1 dX8_isOneTooMany_0 rfl rfl ?_
  refine G.bipush (v := (6 : Int32)) C dX8_isOneTooMany_1 (by decide) ?_
  refine G.icmp_ne (tgt := 24) C dX8_isOneTooMany_3 (by decide) (fun hc => ?_) (fun hc => ?_)
  · have h := it_f h hc
    refine G.iload_n C 1 dX8_isOneTooMany_24 rfl rfl ?_
    refine G.if_eq (tgt := 38) C dX8_isOneTooMany_25 (by decide) (fun hc => ?_) (fun hc => ?_)
    · have h := it_t h hc
      exact G.sub [0] rfl (gb_X8_isOneTooMany_1_38 hE C hr  h)
    · have h := it_f h hc
      refine G.iload_n C 1 dX8_isOneTooMany_28 rfl rfl ?_
      refine G.iconst (v := (1 : Int32)) C dX8_isOneTooMany_29 (by decide) ?_
      refine G.icmp_eq (tgt := 38) C dX8_isOneTooMany_30 (by decide) (fun hc => ?_) (fun hc => ?_)
      · have h := it_t h hc
        exact G.sub [0] rfl (gb_X8_isOneTooMany_1_38 hE C hr  h)
      · have h := it_f h hc
        refine G.iload_n C 1 dX8_isOneTooMany_33 rfl rfl ?_
        refine G.iconst (v := (2 : Int32)) C dX8_isOneTooMany_34 (by decide) ?_
        refine G.icmp_ne (tgt := 42) C dX8_isOneTooMany_35 (by decide) (fun hc => ?_) (fun hc => ?_)
        · have h := it_f h hc
          refine G.iconst (v := (0 : Int32)) C dX8_isOneTooMany_42 (by decide) ?_
          exact G.sub [0] rfl (gb_X8_isOneTooMany_1_43 hE C hr  h)
        · have h := it_t h hc
          exact G.sub [0] rfl (gb_X8_isOneTooMany_1_38 hE C hr  h)
  · have h := it_t h hc
    refine G.aload_n C 0 dX8_isOneTooMany_6 rfl rfl ?_
    refine G.getR (k := 1) C k_X8 (sc_1 hE) rfl (by decide) tg_195 dX8_isOneTooMany_7 ?_
    refine G.getIN (k := 8) C k_X7 (sc_3 hE) rfl (by decide) tw_165 dX8_isOneTooMany_10 ?_
    refine G.bipush (v := (6 : Int32)) C dX8_isOneTooMany_13 (by decide) ?_
    refine G.icmp_lt (tgt := 22) C dX8_isOneTooMany_15 (by decide) (fun hc => ?_) (fun hc => ?_)
    · have h := it_t h hc
      refine G.iconst (v := (0 : Int32)) C dX8_isOneTooMany_22 (by decide) ?_
      cases h
      exact G.zret C hr rfl dX8_isOneTooMany_23
    · have h := it_f h hc
      refine G.iconst (v := (1 : Int32)) C dX8_isOneTooMany_18 (by decide) ?_
      refine G.goto (tgt := 23) C dX8_isOneTooMany_19 (by decide) ?_
      cases h
      exact G.zret C hr rfl dX8_isOneTooMany_23
def f_X8_isOneTooMany_1 (x1 : Int32) (M : Mm) : Option Int32 := bb_X8_isOneTooMany_1_0 x1 M
theorem s_X8_isOneTooMany_1 {l : Launch} {E : Ev} {x1 : Int32} {M : Mm} {v : Int32} (hE : Has shC (eH E)) (h : f_X8_isOneTooMany_1 x1 M = some v) : MetA l yX8_isOneTooMany cX8_isOneTooMany 3 (some .boolean) 1 E [.ref (eA E 1), .int x1] M (some (.int v)) M := by
  refine MetA.of (by decide +kernel) (Nat.le_of_ble_eq_true rfl) ?_
  intro p e s m below meth c C hr hnm
  exact G.sub [0, 1] rfl (gb_X8_isOneTooMany_1_0 hE C hr  h)
def bb_X7_addLetter_3_0 (x1 : Int64) (M : Mm) : Option Mm := if (10 : Int32) ≤ (M.1 3 7) then (some M) else (gd (inb (M.1 3 7) 10) (ltv (wJ M 4 (ix (M.1 3 7)) x1) fun M_2 => ltv (wI M_2 3 7 ((M_2.1 3 7) + (1 : Int32))) fun M_3 => some M_3))
set_option maxHeartbeats 4000000 in
set_option maxRecDepth 100000 in
theorem gb_X7_addLetter_3_0  {x1 : Int64} {M : Mm} {M' : Mm} (hE : Has shC (eH E)) (C : Cx RX7 cX7_addLetter 3 p (rmD 1) s m args meth c E) (hr : meth.sig.returnType = none) (h : bb_X7_addLetter_3_0 x1 M = some M') : G p l e (rmD 1) s m args below meth c E 3 0 0 (QR below args s E 0 0 none M') 0 [(0, .ref (eA E 3)), (1, .long x1)] [] M := by
  unfold bb_X7_addLetter_3_0 at h
  refine G.aload_n C 0 dX7_addLetter_0 rfl rfl ?_
  refine G.getI (k := 7) C k_X7 (sc_3 hE) rfl (by decide) tg_157 dX7_addLetter_1 ?_
  refine G.bipush (v := (10 : Int32)) C dX7_addLetter_4 (by decide) ?_
  refine G.icmp_ge (tgt := 29) C dX7_addLetter_6 (by decide) (fun hc => ?_) (fun hc => ?_)
  · have h := it_t h hc
    cases h
    exact G.vret C hr dX7_addLetter_29
  · have h := it_f h hc
    refine G.aload_n C 0 dX7_addLetter_9 rfl rfl ?_
    refine G.getR (k := 0) C k_X7 (sc_3 hE) rfl (by decide) tg_136 dX7_addLetter_10 ?_
    refine G.aload_n C 0 dX7_addLetter_13 rfl rfl ?_
    refine G.getI (k := 7) C k_X7 (sc_3 hE) rfl (by decide) tg_157 dX7_addLetter_14 ?_
    refine G.lload_n C 1 dX7_addLetter_17 rfl rfl ?_
    obtain ⟨hg_1, h⟩ := gd_ex h
    obtain ⟨M_2, eM_2, h⟩ := ltv_ex h
    refine G.sJ (j := (ix (M.1 3 7))) C (sc_4 hE) hg_1 rfl dX7_addLetter_18 eM_2 ?_
    refine G.aload_n C 0 dX7_addLetter_19 rfl rfl ?_
    refine G.dup C dX7_addLetter_20 rfl ?_
    refine G.getI (k := 7) C k_X7 (sc_3 hE) rfl (by decide) tg_157 dX7_addLetter_21 ?_
    refine G.iconst (v := (1 : Int32)) C dX7_addLetter_24 (by decide) ?_
    refine G.iadd C dX7_addLetter_25 ?_
    obtain ⟨M_3, eM_3, h⟩ := ltv_ex h
    refine G.putI (k := 7) C k_X7 (sc_3 hE) rfl (by decide) tg_157 rfl rfl dX7_addLetter_26 eM_3 ?_
    cases h
    exact G.vret C hr dX7_addLetter_29
def f_X7_addLetter_3 (x1 : Int64) (M : Mm) : Option Mm := bb_X7_addLetter_3_0 x1 M
theorem s_X7_addLetter_3 {l : Launch} {E : Ev} {x1 : Int64} {M : Mm} {M' : Mm} (hE : Has shC (eH E)) (h : f_X7_addLetter_3 x1 M = some M') : MetA l yX7_addLetter cX7_addLetter 3 none 1 E [.ref (eA E 3), .long x1] M none M' := by
  refine MetA.of (by decide +kernel) (Nat.le_of_ble_eq_true rfl) ?_
  intro p e s m below meth c C hr hnm
  exact G.sub [0, 1] rfl (gb_X7_addLetter_3_0 hE C hr  h)
def bb_X8_digitStands_1_0  (M : Mm) : Option Int32 := bd (f_X8_here_1 M) fun v_2 => if v_2 < (48 : Int32) then (some (0 : Int32)) else (bd (f_X8_here_1 M) fun v_4 => if (57 : Int32) < v_4 then (some (0 : Int32)) else (some (1 : Int32)))
set_option maxHeartbeats 4000000 in
set_option maxRecDepth 100000 in
theorem gb_X8_digitStands_1_0   {M : Mm} {v : Int32} (hE : Has shC (eH E)) (C : Cx RX8 cX8_digitStands 1 p (rmD 2) s m args meth c E) (hr : meth.sig.returnType = (some .boolean)) (h : bb_X8_digitStands_1_0 M = some v) : G p l e (rmD 2) s m args below meth c E 1 0 0 (QR below args s E 0 0 (some (.int v)) M) 0 [(0, .ref (eA E 1))] [] M := by
  unfold bb_X8_digitStands_1_0 at h
  refine G.aload_n C 0 dX8_digitStands_0 rfl rfl ?_
  obtain ⟨v_2, hv_1, h⟩ := bd_ex h
  refine G.callV (rest := []) C (s_X8_here_1 hE  hv_1) ⟨tg_723, tg_91, ok_X8_here, Nat.le_of_ble_eq_true rfl, Nat.le_of_ble_eq_true rfl⟩ tg_720 tg_722 tg_8 (sc_1 hE) rfl rfl (Nat.le_of_ble_eq_true rfl) dX8_digitStands_1 ⟨Nat.le_refl 0, Nat.le_refl 0⟩ ?_
  refine G.bipush (v := (48 : Int32)) C dX8_digitStands_4 (by decide) ?_
  refine G.icmp_lt (tgt := 22) C dX8_digitStands_6 (by decide) (fun hc => ?_) (fun hc => ?_)
  · have h := it_t h hc
    refine G.iconst (v := (0 : Int32)) C dX8_digitStands_22 (by decide) ?_
    cases h
    exact G.zret C hr rfl dX8_digitStands_23
  · have h := it_f h hc
    refine G.aload_n C 0 dX8_digitStands_9 rfl rfl ?_
    obtain ⟨v_4, hv_3, h⟩ := bd_ex h
    refine G.callV (rest := []) C (s_X8_here_1 hE  hv_3) ⟨tg_723, tg_91, ok_X8_here, Nat.le_of_ble_eq_true rfl, Nat.le_of_ble_eq_true rfl⟩ tg_720 tg_722 tg_8 (sc_1 hE) rfl rfl (Nat.le_of_ble_eq_true rfl) dX8_digitStands_10 ⟨Nat.le_refl 0, Nat.le_refl 0⟩ ?_
    refine G.bipush (v := (57 : Int32)) C dX8_digitStands_13 (by decide) ?_
    refine G.icmp_gt (tgt := 22) C dX8_digitStands_15 (by decide) (fun hc => ?_) (fun hc => ?_)
    · have h := it_t h hc
      refine G.iconst (v := (0 : Int32)) C dX8_digitStands_22 (by decide) ?_
      cases h
      exact G.zret C hr rfl dX8_digitStands_23
    · have h := it_f h hc
      refine G.iconst (v := (1 : Int32)) C dX8_digitStands_18 (by decide) ?_
      refine G.goto (tgt := 23) C dX8_digitStands_19 (by decide) ?_
      cases h
      exact G.zret C hr rfl dX8_digitStands_23
def f_X8_digitStands_1  (M : Mm) : Option Int32 := bb_X8_digitStands_1_0 M
theorem s_X8_digitStands_1 {l : Launch} {E : Ev}  {M : Mm} {v : Int32} (hE : Has shC (eH E)) (h : f_X8_digitStands_1 M = some v) : MetA l yX8_digitStands cX8_digitStands 1 (some .boolean) 2 E [.ref (eA E 1)] M (some (.int v)) M := by
  refine MetA.of (by decide +kernel) (Nat.le_of_ble_eq_true rfl) ?_
  intro p e s m below meth c C hr hnm
  exact G.sub [0] rfl (gb_X8_digitStands_1_0 hE C hr  h)
def bb_X8_readNumber_1_76 (x1 : Int32) (x2 : Int32) (x3 : Int32) (x4 : Int32) (M : Mm) : Option (Int32 × Mm) := if (M.1 1 4) = x3 then (bd (f_X8_fail_1 (1 : Int32) x3 M) fun M_16 => some (x4, M_16)) else (if x4 < x1 then (bd (f_X8_fail_1 (2 : Int32) x3 M) fun M_12 => some (x4, M_12)) else (if x4 ≤ x2 then (some (x4, M)) else (bd (f_X8_fail_1 (2 : Int32) x3 M) fun M_14 => some (x4, M_14))))
set_option maxHeartbeats 4000000 in
set_option maxRecDepth 100000 in
theorem gb_X8_readNumber_1_76  {x1 : Int32} {x2 : Int32} {x3 : Int32} {x4 : Int32} {M : Mm} {v : Int32} {M' : Mm} (hE : Has shC (eH E)) (C : Cx RX8 cX8_readNumber 6 p (rmD 3) s m args meth c E) (hr : meth.sig.returnType = (some .int)) (h : bb_X8_readNumber_1_76 x1 x2 x3 x4 M = some (v, M')) : G p l e (rmD 3) s m args below meth c E 6 0 0 (QR below args s E 0 0 (some (.int v)) M') 76 [(0, .ref (eA E 1)), (1, .int x1), (2, .int x2), (3, .int x3), (4, .int x4)] [] M := by
  unfold bb_X8_readNumber_1_76 at h
  refine G.aload_n C 0 dX8_readNumber_76 rfl rfl ?_
  refine G.getI (k := 4) C k_X8 (sc_1 hE) rfl (by decide) tg_200 dX8_readNumber_77 ?_
  refine G.iload_n C 3 dX8_readNumber_80 rfl rfl ?_
  refine G.icmp_ne (tgt := 93) C dX8_readNumber_81 (by decide) (fun hc => ?_) (fun hc => ?_)
  · have h := it_f h hc
    refine G.iload C 4 dX8_readNumber_93 rfl ?_
    refine G.iload_n C 1 dX8_readNumber_95 rfl rfl ?_
    refine G.icmp_lt (tgt := 105) C dX8_readNumber_96 (by decide) (fun hc => ?_) (fun hc => ?_)
    · have h := it_t h hc
      refine G.aload_n C 0 dX8_readNumber_105 rfl rfl ?_
      refine G.iconst (v := (2 : Int32)) C dX8_readNumber_106 (by decide) ?_
      refine G.iload_n C 3 dX8_readNumber_107 rfl rfl ?_
      obtain ⟨M_12, hv_11, h⟩ := bd_ex h
      refine G.callV (rest := []) C (s_X8_fail_1 hE  hv_11) ⟨tg_795, tg_91, ok_X8_fail, Nat.le_of_ble_eq_true rfl, Nat.le_of_ble_eq_true rfl⟩ tg_792 tg_794 tg_12 (sc_1 hE) rfl rfl (Nat.le_of_ble_eq_true rfl) dX8_readNumber_108 ⟨Nat.le_refl 0, Nat.le_refl 0⟩ ?_
      refine G.iload C 4 dX8_readNumber_111 rfl ?_
      cases h
      exact G.iret C hr dX8_readNumber_113
    · have h := it_f h hc
      refine G.iload C 4 dX8_readNumber_99 rfl ?_
      refine G.iload_n C 2 dX8_readNumber_101 rfl rfl ?_
      refine G.icmp_le (tgt := 111) C dX8_readNumber_102 (by decide) (fun hc => ?_) (fun hc => ?_)
      · have h := it_t h hc
        refine G.iload C 4 dX8_readNumber_111 rfl ?_
        cases h
        exact G.iret C hr dX8_readNumber_113
      · have h := it_f h hc
        refine G.aload_n C 0 dX8_readNumber_105 rfl rfl ?_
        refine G.iconst (v := (2 : Int32)) C dX8_readNumber_106 (by decide) ?_
        refine G.iload_n C 3 dX8_readNumber_107 rfl rfl ?_
        obtain ⟨M_14, hv_13, h⟩ := bd_ex h
        refine G.callV (rest := []) C (s_X8_fail_1 hE  hv_13) ⟨tg_795, tg_91, ok_X8_fail, Nat.le_of_ble_eq_true rfl, Nat.le_of_ble_eq_true rfl⟩ tg_792 tg_794 tg_12 (sc_1 hE) rfl rfl (Nat.le_of_ble_eq_true rfl) dX8_readNumber_108 ⟨Nat.le_refl 0, Nat.le_refl 0⟩ ?_
        refine G.iload C 4 dX8_readNumber_111 rfl ?_
        cases h
        exact G.iret C hr dX8_readNumber_113
  · have h := it_t h hc
    refine G.aload_n C 0 dX8_readNumber_84 rfl rfl ?_
    refine G.iconst (v := (1 : Int32)) C dX8_readNumber_85 (by decide) ?_
    refine G.iload_n C 3 dX8_readNumber_86 rfl rfl ?_
    obtain ⟨M_16, hv_15, h⟩ := bd_ex h
    refine G.callV (rest := []) C (s_X8_fail_1 hE  hv_15) ⟨tg_795, tg_91, ok_X8_fail, Nat.le_of_ble_eq_true rfl, Nat.le_of_ble_eq_true rfl⟩ tg_792 tg_794 tg_12 (sc_1 hE) rfl rfl (Nat.le_of_ble_eq_true rfl) dX8_readNumber_87 ⟨Nat.le_refl 0, Nat.le_refl 0⟩ ?_
    refine G.goto (tgt := 111) C dX8_readNumber_90 (by decide) ?_
    refine G.iload C 4 dX8_readNumber_111 rfl ?_
    cases h
    exact G.iret C hr dX8_readNumber_113
def bb_X8_readNumber_1_24 (k_24 : Int32 → Int32 → Int32 → Int32 → Int32 → Mm → Option (Int32 × Mm)) (x1 : Int32) (x2 : Int32) (x3 : Int32) (x4 : Int32) (x5 : Int32) (M : Mm) : Option (Int32 × Mm) := if (500 : Int32) ≤ x5 then (bb_X8_readNumber_1_76 x1 x2 x3 x4 M) else (bd (f_X8_digitStands_1 M) fun v_5 => if v_5 = 0 then (bb_X8_readNumber_1_76 x1 x2 x3 x4 M) else (bd (f_X8_here_1 M) fun v_7 => ltv (if (1000 : Int32) < ((((10 : Int32) * x4) + v_7) - (48 : Int32)) then (1000 : Int32) else ((((10 : Int32) * x4) + v_7) - (48 : Int32))) fun x4_8 => ltv (wI M 1 4 ((M.1 1 4) + (1 : Int32))) fun M_9 => ltv (x5 + (1 : Int32)) fun x5_10 => k_24 x1 x2 x3 x4_8 x5_10 M_9))
set_option maxHeartbeats 4000000 in
set_option maxRecDepth 100000 in
theorem gb_X8_readNumber_1_24  {k_24 : Int32 → Int32 → Int32 → Int32 → Int32 → Mm → Option (Int32 × Mm)} {x1 : Int32} {x2 : Int32} {x3 : Int32} {x4 : Int32} {x5 : Int32} {M : Mm} {v : Int32} {M' : Mm} (hE : Has shC (eH E)) (C : Cx RX8 cX8_readNumber 6 p (rmD 3) s m args meth c E) (hr : meth.sig.returnType = (some .int)) (hk_24 : ∀ (x1 : Int32) (x2 : Int32) (x3 : Int32) (x4 : Int32) (x5 : Int32) (M : Mm), k_24 x1 x2 x3 x4 x5 M = some (v, M') → G p l e (rmD 3) s m args below meth c E 6 0 0 (QR below args s E 0 0 (some (.int v)) M') 24 [(0, .ref (eA E 1)), (1, .int x1), (2, .int x2), (3, .int x3), (4, .int x4), (5, .int x5)] [] M) (h : bb_X8_readNumber_1_24 k_24 x1 x2 x3 x4 x5 M = some (v, M')) : G p l e (rmD 3) s m args below meth c E 6 0 0 (QR below args s E 0 0 (some (.int v)) M') 24 [(0, .ref (eA E 1)), (1, .int x1), (2, .int x2), (3, .int x3), (4, .int x4), (5, .int x5)] [] M := by
  unfold bb_X8_readNumber_1_24 at h
  refine G.iload C 5 dX8_readNumber_24 rfl ?_
  refine G.sipush (v := (500 : Int32)) C dX8_readNumber_26 (by decide) ?_
  refine G.icmp_ge (tgt := 76) C dX8_readNumber_29 (by decide) (fun hc => ?_) (fun hc => ?_)
  · have h := it_t h hc
    exact G.sub [0, 1, 2, 3, 4] rfl (gb_X8_readNumber_1_76 hE C hr  h)
  · have h := it_f h hc
    refine G.aload_n C 0 dX8_readNumber_32 rfl rfl ?_
    obtain ⟨v_5, hv_4, h⟩ := bd_ex h
    refine G.callV (rest := []) C (s_X8_digitStands_1 hE  hv_4) ⟨tg_819, tg_91, ok_X8_digitStands, Nat.le_of_ble_eq_true rfl, Nat.le_of_ble_eq_true rfl⟩ tg_816 tg_818 tg_17 (sc_1 hE) rfl rfl (Nat.le_of_ble_eq_true rfl) dX8_readNumber_33 ⟨Nat.le_refl 0, Nat.le_refl 0⟩ ?_
    refine G.if_eq (tgt := 76) C dX8_readNumber_36 (by decide) (fun hc => ?_) (fun hc => ?_)
    · have h := it_t h hc
      exact G.sub [0, 1, 2, 3, 4] rfl (gb_X8_readNumber_1_76 hE C hr  h)
    · have h := it_f h hc
      refine G.bipush (v := (10 : Int32)) C dX8_readNumber_39 (by decide) ?_
      refine G.iload C 4 dX8_readNumber_41 rfl ?_
      refine G.imul C dX8_readNumber_43 ?_
      refine G.aload_n C 0 dX8_readNumber_44 rfl rfl ?_
      obtain ⟨v_7, hv_6, h⟩ := bd_ex h
      refine G.callV (rest := [.int ((10 : Int32) * x4)]) C (s_X8_here_1 hE  hv_6) ⟨tg_723, tg_91, ok_X8_here, Nat.le_of_ble_eq_true rfl, Nat.le_of_ble_eq_true rfl⟩ tg_720 tg_722 tg_8 (sc_1 hE) rfl rfl (Nat.le_of_ble_eq_true rfl) dX8_readNumber_45 ⟨Nat.le_refl 0, Nat.le_refl 0⟩ ?_
      refine G.iadd C dX8_readNumber_48 ?_
      refine G.bipush (v := (48 : Int32)) C dX8_readNumber_49 (by decide) ?_
      refine G.isub C dX8_readNumber_51 ?_
      refine G.sipush (v := (1000 : Int32)) C dX8_readNumber_52 (by decide) ?_
      refine G.mmin (rest := []) C tg_714 tg_421 tg_100 tg_422 ⟨Nat.le_of_ble_eq_true rfl, Nat.le_of_ble_eq_true rfl⟩ (Nat.le_of_ble_eq_true rfl) ⟨Nat.le_refl 0, Nat.le_refl 0⟩ dX8_readNumber_55 ?_
      obtain ⟨x4_8, ex4_8, h⟩ := ltv_ex h
      refine G.istore (L' := [(4, .int x4_8), (0, .ref (eA E 1)), (1, .int x1), (2, .int x2), (3, .int x3), (5, .int x5)]) C dX8_readNumber_58 ex4_8 (by decide) rfl ?_
      refine G.aload_n C 1 dX8_readNumber_60 rfl rfl ?_
      refine G.dup C dX8_readNumber_61 rfl ?_
      refine G.getI (k := 4) C k_X8 (sc_1 hE) rfl (by decide) tg_200 dX8_readNumber_62 ?_
      refine G.iconst (v := (1 : Int32)) C dX8_readNumber_65 (by decide) ?_
      refine G.iadd C dX8_readNumber_66 ?_
      obtain ⟨M_9, eM_9, h⟩ := ltv_ex h
      refine G.putI (k := 4) C k_X8 (sc_1 hE) rfl (by decide) tg_200 rfl rfl dX8_readNumber_67 eM_9 ?_
      obtain ⟨x5_10, ex5_10, h⟩ := ltv_ex h
      refine G.iinc (L' := [(5, .int x5_10), (4, .int x4_8), (0, .ref (eA E 1)), (1, .int x1), (2, .int x2), (3, .int x3)]) C 5 dX8_readNumber_70 rfl (ex5_10.trans rfl) (by decide) rfl ?_
      refine G.goto (tgt := 24) C dX8_readNumber_73 (by decide) ?_
      exact G.sub [2, 3, 4, 5, 1, 0] rfl (hk_24 _ _ _ _ _ _  h)
def b_X8_readNumber_1_24 : Nat → Int32 → Int32 → Int32 → Int32 → Int32 → Mm → Option (Int32 × Mm)
  | 0, _, _, _, _, _, _ => none
  | n + 1, x1, x2, x3, x4, x5, M => bb_X8_readNumber_1_24 (b_X8_readNumber_1_24 n) x1 x2 x3 x4 x5 M
set_option maxHeartbeats 4000000 in
theorem g_X8_readNumber_1_24  {n : Nat} {x1 : Int32} {x2 : Int32} {x3 : Int32} {x4 : Int32} {x5 : Int32} {M : Mm} {v : Int32} {M' : Mm} (hE : Has shC (eH E)) (C : Cx RX8 cX8_readNumber 6 p (rmD 3) s m args meth c E) (hr : meth.sig.returnType = (some .int)) (h : b_X8_readNumber_1_24 n x1 x2 x3 x4 x5 M = some (v, M')) : G p l e (rmD 3) s m args below meth c E 6 0 0 (QR below args s E 0 0 (some (.int v)) M') 24 [(0, .ref (eA E 1)), (1, .int x1), (2, .int x2), (3, .int x3), (4, .int x4), (5, .int x5)] [] M := by
  induction n generalizing x1 x2 x3 x4 x5 M with
  | zero => cases h
  | succ n ih => exact gb_X8_readNumber_1_24 hE C hr (fun _ _ _ _ _ _ => ih)  h
def bb_X8_readNumber_1_0 (x1 : Int32) (x2 : Int32) (M : Mm) : Option (Int32 × Mm) := if (M.1 1 5) = 0 then (bd (f_X8_skipBlanks_1 M) fun M_2 => ltv (M_2.1 1 4) fun x3_3 => b_X8_readNumber_1_24 FU x1 x2 x3_3 (0 : Int32) (0 : Int32) M_2) else (some (x1, M))
set_option maxHeartbeats 4000000 in
set_option maxRecDepth 100000 in
theorem gb_X8_readNumber_1_0  {x1 : Int32} {x2 : Int32} {M : Mm} {v : Int32} {M' : Mm} (hE : Has shC (eH E)) (C : Cx RX8 cX8_readNumber 6 p (rmD 3) s m args meth c E) (hr : meth.sig.returnType = (some .int)) (h : bb_X8_readNumber_1_0 x1 x2 M = some (v, M')) : G p l e (rmD 3) s m args below meth c E 6 0 0 (QR below args s E 0 0 (some (.int v)) M') 0 [(0, .ref (eA E 1)), (1, .int x1), (2, .int x2)] [] M := by
  unfold bb_X8_readNumber_1_0 at h
  refine G.aload_n C 0 dX8_readNumber_0 rfl rfl ?_
  refine G.getI (k := 5) C k_X8 (sc_1 hE) rfl (by decide) tg_201 dX8_readNumber_1 ?_
  refine G.if_eq (tgt := 9) C dX8_readNumber_4 (by decide) (fun hc => ?_) (fun hc => ?_)
  · have h := it_t h hc
    refine G.aload_n C 0 dX8_readNumber_9 rfl rfl ?_
    obtain ⟨M_2, hv_1, h⟩ := bd_ex h
    refine G.callV (rest := []) C (s_X8_skipBlanks_1 hE  hv_1) ⟨tg_719, tg_91, ok_X8_skipBlanks, Nat.le_of_ble_eq_true rfl, Nat.le_of_ble_eq_true rfl⟩ tg_716 tg_718 tg_7 (sc_1 hE) rfl rfl (Nat.le_of_ble_eq_true rfl) dX8_readNumber_10 ⟨Nat.le_refl 0, Nat.le_refl 0⟩ ?_
    refine G.aload_n C 0 dX8_readNumber_13 rfl rfl ?_
    refine G.getI (k := 4) C k_X8 (sc_1 hE) rfl (by decide) tg_200 dX8_readNumber_14 ?_
    obtain ⟨x3_3, ex3_3, h⟩ := ltv_ex h
    refine G.istore_n (L' := [(3, .int x3_3), (0, .ref (eA E 1)), (1, .int x1), (2, .int x2)]) C dX8_readNumber_17 rfl ex3_3 (by decide) rfl ?_
    refine G.iconst (v := (0 : Int32)) C dX8_readNumber_18 (by decide) ?_
    refine G.istore (L' := [(4, .int (0 : Int32)), (3, .int x3_3), (0, .ref (eA E 1)), (1, .int x1), (2, .int x2)]) C dX8_readNumber_19 rfl (by decide) rfl ?_
    refine G.iconst (v := (0 : Int32)) C dX8_readNumber_21 (by decide) ?_
    refine G.istore (L' := [(5, .int (0 : Int32)), (4, .int (0 : Int32)), (3, .int x3_3), (0, .ref (eA E 1)), (1, .int x1), (2, .int x2)]) C dX8_readNumber_22 rfl (by decide) rfl ?_
    exact G.sub [3, 4, 5, 2, 1, 0] rfl (g_X8_readNumber_1_24 hE C hr  h)
  · have h := it_f h hc
    refine G.iload_n C 1 dX8_readNumber_7 rfl rfl ?_
    cases h
    exact G.iret C hr dX8_readNumber_8
def f_X8_readNumber_1 (x1 : Int32) (x2 : Int32) (M : Mm) : Option (Int32 × Mm) := bb_X8_readNumber_1_0 x1 x2 M
theorem s_X8_readNumber_1 {l : Launch} {E : Ev} {x1 : Int32} {x2 : Int32} {M : Mm} {v : Int32} {M' : Mm} (hE : Has shC (eH E)) (h : f_X8_readNumber_1 x1 x2 M = some (v, M')) : MetA l yX8_readNumber cX8_readNumber 6 (some .int) 3 E [.ref (eA E 1), .int x1, .int x2] M (some (.int v)) M' := by
  refine MetA.of (by decide +kernel) (Nat.le_of_ble_eq_true rfl) ?_
  intro p e s m below meth c C hr hnm
  exact G.sub [0, 1, 2] rfl (gb_X8_readNumber_1_0 hE C hr  h)
def bb_X7_inkOf_3_0 (x1 : Int32) (M : Mm) : Option Int64 := if x1 < 0 then (some (0 : Int64)) else (if (M.1 3 7) ≤ x1 then (some (0 : Int64)) else (gd (inb x1 10) (some (M.2 4 (ix x1)))))
set_option maxHeartbeats 4000000 in
set_option maxRecDepth 100000 in
theorem gb_X7_inkOf_3_0  {x1 : Int32} {M : Mm} {v : Int64} (hE : Has shC (eH E)) (C : Cx RX7 cX7_inkOf 2 p (rmD 1) s m args meth c E) (hr : meth.sig.returnType = (some .long)) (h : bb_X7_inkOf_3_0 x1 M = some v) : G p l e (rmD 1) s m args below meth c E 2 0 0 (QR below args s E 0 0 (some (.long v)) M) 0 [(0, .ref (eA E 3)), (1, .int x1)] [] M := by
  unfold bb_X7_inkOf_3_0 at h
  refine G.iload_n C 1 dX7_inkOf_0 rfl rfl ?_
  refine G.if_lt (tgt := 21) C dX7_inkOf_1 (by decide) (fun hc => ?_) (fun hc => ?_)
  · have h := it_t h hc
    refine G.lconst (v := (0 : Int64)) C dX7_inkOf_21 (by decide) ?_
    cases h
    exact G.lret C hr dX7_inkOf_22
  · have h := it_f h hc
    refine G.iload_n C 1 dX7_inkOf_4 rfl rfl ?_
    refine G.aload_n C 0 dX7_inkOf_5 rfl rfl ?_
    refine G.getI (k := 7) C k_X7 (sc_3 hE) rfl (by decide) tg_157 dX7_inkOf_6 ?_
    refine G.icmp_ge (tgt := 21) C dX7_inkOf_9 (by decide) (fun hc => ?_) (fun hc => ?_)
    · have h := it_t h hc
      refine G.lconst (v := (0 : Int64)) C dX7_inkOf_21 (by decide) ?_
      cases h
      exact G.lret C hr dX7_inkOf_22
    · have h := it_f h hc
      refine G.aload_n C 0 dX7_inkOf_12 rfl rfl ?_
      refine G.getR (k := 0) C k_X7 (sc_3 hE) rfl (by decide) tg_136 dX7_inkOf_13 ?_
      refine G.iload_n C 1 dX7_inkOf_16 rfl rfl ?_
      obtain ⟨hg_1, h⟩ := gd_ex h
      refine G.aJ (j := ix x1) C (sc_4 hE) hg_1 rfl dX7_inkOf_17 ?_
      refine G.goto (tgt := 22) C dX7_inkOf_18 (by decide) ?_
      cases h
      exact G.lret C hr dX7_inkOf_22
def f_X7_inkOf_3 (x1 : Int32) (M : Mm) : Option Int64 := bb_X7_inkOf_3_0 x1 M
theorem s_X7_inkOf_3 {l : Launch} {E : Ev} {x1 : Int32} {M : Mm} {v : Int64} (hE : Has shC (eH E)) (h : f_X7_inkOf_3 x1 M = some v) : MetA l yX7_inkOf cX7_inkOf 2 (some .long) 1 E [.ref (eA E 3), .int x1] M (some (.long v)) M := by
  refine MetA.of (by decide +kernel) (Nat.le_of_ble_eq_true rfl) ?_
  intro p e s m below meth c C hr hnm
  exact G.sub [0, 1] rfl (gb_X7_inkOf_3_0 hE C hr  h)
def bb_X8_readCopy_1_0 (x1 : Int32) (M : Mm) : Option Mm := bd2 (f_X8_readNumber_1 (0 : Int32) ((M.1 3 7) - (1 : Int32)) M) fun v_3 M_2 => if (M_2.1 1 5) = 0 then (bd (f_X7_inkOf_3 v_3 M_2) fun v_5 => if x1 = (1 : Int32) then (bd (f_X4_halfTurned v_5) fun v_11 => bd (f_X7_addLetter_3 v_11 M_2) fun M_13 => some M_13) else (bd (f_X4_mirrored v_5) fun v_7 => bd (f_X7_addLetter_3 v_7 M_2) fun M_9 => some M_9)) else (some M_2)
set_option maxHeartbeats 4000000 in
set_option maxRecDepth 100000 in
theorem gb_X8_readCopy_1_0  {x1 : Int32} {M : Mm} {M' : Mm} (hE : Has shC (eH E)) (C : Cx RX8 cX8_readCopy 5 p (rmD 4) s m args meth c E) (hr : meth.sig.returnType = none) (h : bb_X8_readCopy_1_0 x1 M = some M') : G p l e (rmD 4) s m args below meth c E 5 0 0 (QR below args s E 0 0 none M') 0 [(0, .ref (eA E 1)), (1, .int x1)] [] M := by
  unfold bb_X8_readCopy_1_0 at h
  refine G.aload_n C 0 dX8_readCopy_0 rfl rfl ?_
  refine G.iconst (v := (0 : Int32)) C dX8_readCopy_1 (by decide) ?_
  refine G.aload_n C 0 dX8_readCopy_2 rfl rfl ?_
  refine G.getR (k := 1) C k_X8 (sc_1 hE) rfl (by decide) tg_195 dX8_readCopy_3 ?_
  refine G.getIN (k := 7) C k_X7 (sc_3 hE) rfl (by decide) tw_160 dX8_readCopy_6 ?_
  refine G.iconst (v := (1 : Int32)) C dX8_readCopy_9 (by decide) ?_
  refine G.isub C dX8_readCopy_10 ?_
  obtain ⟨v_3, M_2, hv_1, h⟩ := bd2_ex h
  refine G.callV (rest := []) C (s_X8_readNumber_1 hE  hv_1) ⟨tg_815, tg_91, ok_X8_readNumber, Nat.le_of_ble_eq_true rfl, Nat.le_of_ble_eq_true rfl⟩ tg_812 tg_814 tg_16 (sc_1 hE) rfl rfl (Nat.le_of_ble_eq_true rfl) dX8_readCopy_11 ⟨Nat.le_refl 0, Nat.le_refl 0⟩ ?_
  refine G.istore_n (L' := [(2, .int v_3), (0, .ref (eA E 1)), (1, .int x1)]) C dX8_readCopy_14 rfl rfl (by decide) rfl ?_
  refine G.aload_n C 1 dX8_readCopy_15 rfl rfl ?_
  refine G.getI (k := 5) C k_X8 (sc_1 hE) rfl (by decide) tg_201 dX8_readCopy_16 ?_
  refine G.if_ne (tgt := 54) C dX8_readCopy_19 (by decide) (fun hc => ?_) (fun hc => ?_)
  · have h := it_f h hc
    cases h
    exact G.vret C hr dX8_readCopy_54
  · have h := it_t h hc
    refine G.aload_n C 1 dX8_readCopy_22 rfl rfl ?_
    refine G.getR (k := 1) C k_X8 (sc_1 hE) rfl (by decide) tg_195 dX8_readCopy_23 ?_
    refine G.iload_n C 0 dX8_readCopy_26 rfl rfl ?_
    obtain ⟨v_5, hv_4, h⟩ := bd_ex h
    refine G.callV (rest := []) C (s_X7_inkOf_3 hE  hv_4) ⟨tg_454, tg_92, ok_X7_inkOf, Nat.le_of_ble_eq_true rfl, Nat.le_of_ble_eq_true rfl⟩ tg_820 tg_452 tg_453 (sc_3 hE) rfl rfl (Nat.le_of_ble_eq_true rfl) dX8_readCopy_27 ⟨Nat.le_refl 0, Nat.le_refl 0⟩ ?_
    refine G.lstore_n (L' := [(3, .long v_5), (2, .int v_3), (0, .ref (eA E 1)), (1, .int x1)]) C dX8_readCopy_30 rfl rfl (by decide) rfl ?_
    refine G.aload_n C 2 dX8_readCopy_31 rfl rfl ?_
    refine G.getR (k := 1) C k_X8 (sc_1 hE) rfl (by decide) tg_195 dX8_readCopy_32 ?_
    refine G.iload_n C 3 dX8_readCopy_35 rfl rfl ?_
    refine G.iconst (v := (1 : Int32)) C dX8_readCopy_36 (by decide) ?_
    refine G.icmp_ne (tgt := 47) C dX8_readCopy_37 (by decide) (fun hc => ?_) (fun hc => ?_)
    · have h := it_f h hc
      refine G.lload_n C 0 dX8_readCopy_47 rfl rfl ?_
      obtain ⟨v_7, hv_6, h⟩ := bd_ex h
      refine G.callS (rest := [.ref (eA E 3)]) C (s_X4_mirrored  hv_6) ⟨tg_428, tg_101, ok_X4_mirrored, Nat.le_of_ble_eq_true rfl, Nat.le_of_ble_eq_true rfl⟩ tg_824 tg_427 rfl (Nat.le_of_ble_eq_true rfl) dX8_readCopy_48 ⟨Nat.le_refl 0, Nat.le_refl 0⟩ ?_
      obtain ⟨M_9, hv_8, h⟩ := bd_ex h
      refine G.callV (rest := []) C (s_X7_addLetter_3 hE  hv_8) ⟨tg_807, tg_92, ok_X7_addLetter, Nat.le_of_ble_eq_true rfl, Nat.le_of_ble_eq_true rfl⟩ tg_804 tg_805 tg_806 (sc_3 hE) rfl rfl (Nat.le_of_ble_eq_true rfl) dX8_readCopy_51 ⟨Nat.le_refl 0, Nat.le_refl 0⟩ ?_
      cases h
      exact G.vret C hr dX8_readCopy_54
    · have h := it_t h hc
      refine G.lload_n C 0 dX8_readCopy_40 rfl rfl ?_
      obtain ⟨v_11, hv_10, h⟩ := bd_ex h
      refine G.callS (rest := [.ref (eA E 3)]) C (s_X4_halfTurned  hv_10) ⟨tg_823, tg_101, ok_X4_halfTurned, Nat.le_of_ble_eq_true rfl, Nat.le_of_ble_eq_true rfl⟩ tg_821 tg_822 rfl (Nat.le_of_ble_eq_true rfl) dX8_readCopy_41 ⟨Nat.le_refl 0, Nat.le_refl 0⟩ ?_
      refine G.goto (tgt := 51) C dX8_readCopy_44 (by decide) ?_
      obtain ⟨M_13, hv_12, h⟩ := bd_ex h
      refine G.callV (rest := []) C (s_X7_addLetter_3 hE  hv_12) ⟨tg_807, tg_92, ok_X7_addLetter, Nat.le_of_ble_eq_true rfl, Nat.le_of_ble_eq_true rfl⟩ tg_804 tg_805 tg_806 (sc_3 hE) rfl rfl (Nat.le_of_ble_eq_true rfl) dX8_readCopy_51 ⟨Nat.le_refl 0, Nat.le_refl 0⟩ ?_
      cases h
      exact G.vret C hr dX8_readCopy_54
def f_X8_readCopy_1 (x1 : Int32) (M : Mm) : Option Mm := bb_X8_readCopy_1_0 x1 M
theorem s_X8_readCopy_1 {l : Launch} {E : Ev} {x1 : Int32} {M : Mm} {M' : Mm} (hE : Has shC (eH E)) (h : f_X8_readCopy_1 x1 M = some M') : MetA l yX8_readCopy cX8_readCopy 5 none 4 E [.ref (eA E 1), .int x1] M none M' := by
  refine MetA.of (by decide +kernel) (Nat.le_of_ble_eq_true rfl) ?_
  intro p e s m below meth c C hr hnm
  exact G.sub [0, 1] rfl (gb_X8_readCopy_1_0 hE C hr  h)
def bb_X7_latestInk_3_0  (M : Mm) : Option Int64 := bd (f_X7_inkOf_3 ((M.1 3 7) - (1 : Int32)) M) fun v_2 => some v_2
set_option maxHeartbeats 4000000 in
set_option maxRecDepth 100000 in
theorem gb_X7_latestInk_3_0   {M : Mm} {v : Int64} (hE : Has shC (eH E)) (C : Cx RX7 cX7_latestInk 1 p (rmD 2) s m args meth c E) (hr : meth.sig.returnType = (some .long)) (h : bb_X7_latestInk_3_0 M = some v) : G p l e (rmD 2) s m args below meth c E 1 0 0 (QR below args s E 0 0 (some (.long v)) M) 0 [(0, .ref (eA E 3))] [] M := by
  unfold bb_X7_latestInk_3_0 at h
  refine G.aload_n C 0 dX7_latestInk_0 rfl rfl ?_
  refine G.aload_n C 0 dX7_latestInk_1 rfl rfl ?_
  refine G.getI (k := 7) C k_X7 (sc_3 hE) rfl (by decide) tg_157 dX7_latestInk_2 ?_
  refine G.iconst (v := (1 : Int32)) C dX7_latestInk_5 (by decide) ?_
  refine G.isub C dX7_latestInk_6 ?_
  obtain ⟨v_2, hv_1, h⟩ := bd_ex h
  refine G.callV (rest := []) C (s_X7_inkOf_3 hE  hv_1) ⟨tg_454, tg_92, ok_X7_inkOf, Nat.le_of_ble_eq_true rfl, Nat.le_of_ble_eq_true rfl⟩ tg_841 tg_452 tg_453 (sc_3 hE) rfl rfl (Nat.le_of_ble_eq_true rfl) dX7_latestInk_7 ⟨Nat.le_refl 0, Nat.le_refl 0⟩ ?_
  cases h
  exact G.lret C hr dX7_latestInk_10
def f_X7_latestInk_3  (M : Mm) : Option Int64 := bb_X7_latestInk_3_0 M
theorem s_X7_latestInk_3 {l : Launch} {E : Ev}  {M : Mm} {v : Int64} (hE : Has shC (eH E)) (h : f_X7_latestInk_3 M = some v) : MetA l yX7_latestInk cX7_latestInk 1 (some .long) 2 E [.ref (eA E 3)] M (some (.long v)) M := by
  refine MetA.of (by decide +kernel) (Nat.le_of_ble_eq_true rfl) ?_
  intro p e s m below meth c C hr hnm
  exact G.sub [0] rfl (gb_X7_latestInk_3_0 hE C hr  h)
def bb_X7_setLatestInk_3_0 (x1 : Int64) (M : Mm) : Option Mm := if (M.1 3 7) ≤ 0 then (some M) else (if (10 : Int32) < (M.1 3 7) then (some M) else (gd (inb ((M.1 3 7) - (1 : Int32)) 10) (ltv (wJ M 4 (ix ((M.1 3 7) - (1 : Int32))) x1) fun M_2 => some M_2)))
set_option maxHeartbeats 4000000 in
set_option maxRecDepth 100000 in
theorem gb_X7_setLatestInk_3_0  {x1 : Int64} {M : Mm} {M' : Mm} (hE : Has shC (eH E)) (C : Cx RX7 cX7_setLatestInk 3 p (rmD 1) s m args meth c E) (hr : meth.sig.returnType = none) (h : bb_X7_setLatestInk_3_0 x1 M = some M') : G p l e (rmD 1) s m args below meth c E 3 0 0 (QR below args s E 0 0 none M') 0 [(0, .ref (eA E 3)), (1, .long x1)] [] M := by
  unfold bb_X7_setLatestInk_3_0 at h
  refine G.aload_n C 0 dX7_setLatestInk_0 rfl rfl ?_
  refine G.getI (k := 7) C k_X7 (sc_3 hE) rfl (by decide) tg_157 dX7_setLatestInk_1 ?_
  refine G.if_le (tgt := 28) C dX7_setLatestInk_4 (by decide) (fun hc => ?_) (fun hc => ?_)
  · have h := it_t h hc
    cases h
    exact G.vret C hr dX7_setLatestInk_28
  · have h := it_f h hc
    refine G.aload_n C 0 dX7_setLatestInk_7 rfl rfl ?_
    refine G.getI (k := 7) C k_X7 (sc_3 hE) rfl (by decide) tg_157 dX7_setLatestInk_8 ?_
    refine G.bipush (v := (10 : Int32)) C dX7_setLatestInk_11 (by decide) ?_
    refine G.icmp_gt (tgt := 28) C dX7_setLatestInk_13 (by decide) (fun hc => ?_) (fun hc => ?_)
    · have h := it_t h hc
      cases h
      exact G.vret C hr dX7_setLatestInk_28
    · have h := it_f h hc
      refine G.aload_n C 0 dX7_setLatestInk_16 rfl rfl ?_
      refine G.getR (k := 0) C k_X7 (sc_3 hE) rfl (by decide) tg_136 dX7_setLatestInk_17 ?_
      refine G.aload_n C 0 dX7_setLatestInk_20 rfl rfl ?_
      refine G.getI (k := 7) C k_X7 (sc_3 hE) rfl (by decide) tg_157 dX7_setLatestInk_21 ?_
      refine G.iconst (v := (1 : Int32)) C dX7_setLatestInk_24 (by decide) ?_
      refine G.isub C dX7_setLatestInk_25 ?_
      refine G.lload_n C 1 dX7_setLatestInk_26 rfl rfl ?_
      obtain ⟨hg_1, h⟩ := gd_ex h
      obtain ⟨M_2, eM_2, h⟩ := ltv_ex h
      refine G.sJ (j := (ix ((M.1 3 7) - (1 : Int32)))) C (sc_4 hE) hg_1 rfl dX7_setLatestInk_27 eM_2 ?_
      cases h
      exact G.vret C hr dX7_setLatestInk_28
def f_X7_setLatestInk_3 (x1 : Int64) (M : Mm) : Option Mm := bb_X7_setLatestInk_3_0 x1 M
theorem s_X7_setLatestInk_3 {l : Launch} {E : Ev} {x1 : Int64} {M : Mm} {M' : Mm} (hE : Has shC (eH E)) (h : f_X7_setLatestInk_3 x1 M = some M') : MetA l yX7_setLatestInk cX7_setLatestInk 3 none 1 E [.ref (eA E 3), .long x1] M none M' := by
  refine MetA.of (by decide +kernel) (Nat.le_of_ble_eq_true rfl) ?_
  intro p e s m below meth c C hr hnm
  exact G.sub [0, 1] rfl (gb_X7_setLatestInk_3_0 hE C hr  h)
def bb_X8_readDrawing_1_0 (x1 : Int32) (M : Mm) : Option Mm := bd2 (f_X8_readNumber_1 (0 : Int32) (7 : Int32) M) fun v_3 M_2 => bd2 (f_X8_readNumber_1 (0 : Int32) (7 : Int32) M_2) fun v_6 M_5 => bd2 (f_X8_readNumber_1 (1 : Int32) ((8 : Int32) - v_3) M_5) fun v_9 M_8 => bd2 (f_X8_readNumber_1 (1 : Int32) ((8 : Int32) - v_6) M_8) fun v_12 M_11 => if (M_11.1 1 5) = 0 then (bd (f_X7_latestInk_3 M_11) fun v_14 => if x1 = (3 : Int32) then (bd (f_X4_block v_3 v_6 v_9 v_12) fun v_24 => bd (f_X7_setLatestInk_3 (v_14 ||| v_24) M_11) fun M_26 => some M_26) else (if x1 = (4 : Int32) then (bd (f_X4_rim v_3 v_6 v_9 v_12) fun v_20 => bd (f_X7_setLatestInk_3 (v_14 ||| v_20) M_11) fun M_22 => some M_22) else (bd (f_X4_block v_3 v_6 v_9 v_12) fun v_16 => bd (f_X7_setLatestInk_3 (v_14 &&& (v_16 ^^^ (-1 : Int64))) M_11) fun M_18 => some M_18))) else (some M_11)
set_option maxHeartbeats 4000000 in
set_option maxRecDepth 100000 in
theorem gb_X8_readDrawing_1_0  {x1 : Int32} {M : Mm} {M' : Mm} (hE : Has shC (eH E)) (C : Cx RX8 cX8_readDrawing 8 p (rmD 4) s m args meth c E) (hr : meth.sig.returnType = none) (h : bb_X8_readDrawing_1_0 x1 M = some M') : G p l e (rmD 4) s m args below meth c E 8 0 0 (QR below args s E 0 0 none M') 0 [(0, .ref (eA E 1)), (1, .int x1)] [] M := by
  unfold bb_X8_readDrawing_1_0 at h
  refine G.aload_n C 0 dX8_readDrawing_0 rfl rfl ?_
  refine G.iconst (v := (0 : Int32)) C dX8_readDrawing_1 (by decide) ?_
  refine G.bipush (v := (7 : Int32)) C dX8_readDrawing_2 (by decide) ?_
  obtain ⟨v_3, M_2, hv_1, h⟩ := bd2_ex h
  refine G.callV (rest := []) C (s_X8_readNumber_1 hE  hv_1) ⟨tg_815, tg_91, ok_X8_readNumber, Nat.le_of_ble_eq_true rfl, Nat.le_of_ble_eq_true rfl⟩ tg_812 tg_814 tg_16 (sc_1 hE) rfl rfl (Nat.le_of_ble_eq_true rfl) dX8_readDrawing_4 ⟨Nat.le_refl 0, Nat.le_refl 0⟩ ?_
  refine G.istore_n (L' := [(2, .int v_3), (0, .ref (eA E 1)), (1, .int x1)]) C dX8_readDrawing_7 rfl rfl (by decide) rfl ?_
  refine G.aload_n C 1 dX8_readDrawing_8 rfl rfl ?_
  refine G.iconst (v := (0 : Int32)) C dX8_readDrawing_9 (by decide) ?_
  refine G.bipush (v := (7 : Int32)) C dX8_readDrawing_10 (by decide) ?_
  obtain ⟨v_6, M_5, hv_4, h⟩ := bd2_ex h
  refine G.callV (rest := []) C (s_X8_readNumber_1 hE  hv_4) ⟨tg_815, tg_91, ok_X8_readNumber, Nat.le_of_ble_eq_true rfl, Nat.le_of_ble_eq_true rfl⟩ tg_812 tg_814 tg_16 (sc_1 hE) rfl rfl (Nat.le_of_ble_eq_true rfl) dX8_readDrawing_12 ⟨Nat.le_refl 0, Nat.le_refl 0⟩ ?_
  refine G.istore_n (L' := [(3, .int v_6), (2, .int v_3), (0, .ref (eA E 1)), (1, .int x1)]) C dX8_readDrawing_15 rfl rfl (by decide) rfl ?_
  refine G.aload_n C 2 dX8_readDrawing_16 rfl rfl ?_
  refine G.iconst (v := (1 : Int32)) C dX8_readDrawing_17 (by decide) ?_
  refine G.bipush (v := (8 : Int32)) C dX8_readDrawing_18 (by decide) ?_
  refine G.iload_n C 1 dX8_readDrawing_20 rfl rfl ?_
  refine G.isub C dX8_readDrawing_21 ?_
  obtain ⟨v_9, M_8, hv_7, h⟩ := bd2_ex h
  refine G.callV (rest := []) C (s_X8_readNumber_1 hE  hv_7) ⟨tg_815, tg_91, ok_X8_readNumber, Nat.le_of_ble_eq_true rfl, Nat.le_of_ble_eq_true rfl⟩ tg_812 tg_814 tg_16 (sc_1 hE) rfl rfl (Nat.le_of_ble_eq_true rfl) dX8_readDrawing_22 ⟨Nat.le_refl 0, Nat.le_refl 0⟩ ?_
  refine G.istore (L' := [(4, .int v_9), (3, .int v_6), (2, .int v_3), (0, .ref (eA E 1)), (1, .int x1)]) C dX8_readDrawing_25 rfl (by decide) rfl ?_
  refine G.aload_n C 3 dX8_readDrawing_27 rfl rfl ?_
  refine G.iconst (v := (1 : Int32)) C dX8_readDrawing_28 (by decide) ?_
  refine G.bipush (v := (8 : Int32)) C dX8_readDrawing_29 (by decide) ?_
  refine G.iload_n C 1 dX8_readDrawing_31 rfl rfl ?_
  refine G.isub C dX8_readDrawing_32 ?_
  obtain ⟨v_12, M_11, hv_10, h⟩ := bd2_ex h
  refine G.callV (rest := []) C (s_X8_readNumber_1 hE  hv_10) ⟨tg_815, tg_91, ok_X8_readNumber, Nat.le_of_ble_eq_true rfl, Nat.le_of_ble_eq_true rfl⟩ tg_812 tg_814 tg_16 (sc_1 hE) rfl rfl (Nat.le_of_ble_eq_true rfl) dX8_readDrawing_33 ⟨Nat.le_refl 0, Nat.le_refl 0⟩ ?_
  refine G.istore (L' := [(5, .int v_12), (4, .int v_9), (3, .int v_6), (2, .int v_3), (0, .ref (eA E 1)), (1, .int x1)]) C dX8_readDrawing_36 rfl (by decide) rfl ?_
  refine G.aload_n C 4 dX8_readDrawing_38 rfl rfl ?_
  refine G.getI (k := 5) C k_X8 (sc_1 hE) rfl (by decide) tg_201 dX8_readDrawing_39 ?_
  refine G.if_eq (tgt := 46) C dX8_readDrawing_42 (by decide) (fun hc => ?_) (fun hc => ?_)
  · have h := it_t h hc
    refine G.aload_n C 4 dX8_readDrawing_46 rfl rfl ?_
    refine G.getR (k := 1) C k_X8 (sc_1 hE) rfl (by decide) tg_195 dX8_readDrawing_47 ?_
    obtain ⟨v_14, hv_13, h⟩ := bd_ex h
    refine G.callV (rest := []) C (s_X7_latestInk_3 hE  hv_13) ⟨tg_840, tg_92, ok_X7_latestInk, Nat.le_of_ble_eq_true rfl, Nat.le_of_ble_eq_true rfl⟩ tg_837 tg_838 tg_839 (sc_3 hE) rfl rfl (Nat.le_of_ble_eq_true rfl) dX8_readDrawing_50 ⟨Nat.le_refl 0, Nat.le_refl 0⟩ ?_
    refine G.lstore (L' := [(6, .long v_14), (5, .int v_12), (4, .int v_9), (3, .int v_6), (2, .int v_3), (0, .ref (eA E 1)), (1, .int x1)]) C dX8_readDrawing_53 rfl (by decide) rfl ?_
    refine G.iload_n C 6 dX8_readDrawing_55 rfl rfl ?_
    refine G.iconst (v := (3 : Int32)) C dX8_readDrawing_56 (by decide) ?_
    refine G.icmp_ne (tgt := 82) C dX8_readDrawing_57 (by decide) (fun hc => ?_) (fun hc => ?_)
    · have h := it_f h hc
      refine G.iload_n C 6 dX8_readDrawing_82 rfl rfl ?_
      refine G.iconst (v := (4 : Int32)) C dX8_readDrawing_83 (by decide) ?_
      refine G.icmp_ne (tgt := 109) C dX8_readDrawing_84 (by decide) (fun hc => ?_) (fun hc => ?_)
      · have h := it_f h hc
        refine G.aload_n C 5 dX8_readDrawing_109 rfl rfl ?_
        refine G.getR (k := 1) C k_X8 (sc_1 hE) rfl (by decide) tg_195 dX8_readDrawing_110 ?_
        refine G.lload C 0 dX8_readDrawing_113 rfl ?_
        refine G.iload_n C 4 dX8_readDrawing_115 rfl rfl ?_
        refine G.iload_n C 3 dX8_readDrawing_116 rfl rfl ?_
        refine G.iload C 2 dX8_readDrawing_117 rfl ?_
        refine G.iload C 1 dX8_readDrawing_119 rfl ?_
        obtain ⟨v_16, hv_15, h⟩ := bd_ex h
        refine G.callS (rest := [.long v_14, .ref (eA E 3)]) C (s_X4_block  hv_15) ⟨tg_844, tg_101, ok_X4_block, Nat.le_of_ble_eq_true rfl, Nat.le_of_ble_eq_true rfl⟩ tg_842 tg_843 rfl (Nat.le_of_ble_eq_true rfl) dX8_readDrawing_121 ⟨Nat.le_refl 0, Nat.le_refl 0⟩ ?_
        refine G.ldc2 C tg_853 dX8_readDrawing_124 ?_
        refine G.lxor C dX8_readDrawing_127 ?_
        refine G.land C dX8_readDrawing_128 ?_
        obtain ⟨M_18, hv_17, h⟩ := bd_ex h
        refine G.callV (rest := []) C (s_X7_setLatestInk_3 hE  hv_17) ⟨tg_848, tg_92, ok_X7_setLatestInk, Nat.le_of_ble_eq_true rfl, Nat.le_of_ble_eq_true rfl⟩ tg_845 tg_846 tg_847 (sc_3 hE) rfl rfl (Nat.le_of_ble_eq_true rfl) dX8_readDrawing_129 ⟨Nat.le_refl 0, Nat.le_refl 0⟩ ?_
        cases h
        exact G.vret C hr dX8_readDrawing_132
      · have h := it_t h hc
        refine G.aload_n C 5 dX8_readDrawing_87 rfl rfl ?_
        refine G.getR (k := 1) C k_X8 (sc_1 hE) rfl (by decide) tg_195 dX8_readDrawing_88 ?_
        refine G.lload C 0 dX8_readDrawing_91 rfl ?_
        refine G.iload_n C 4 dX8_readDrawing_93 rfl rfl ?_
        refine G.iload_n C 3 dX8_readDrawing_94 rfl rfl ?_
        refine G.iload C 2 dX8_readDrawing_95 rfl ?_
        refine G.iload C 1 dX8_readDrawing_97 rfl ?_
        obtain ⟨v_20, hv_19, h⟩ := bd_ex h
        refine G.callS (rest := [.long v_14, .ref (eA E 3)]) C (s_X4_rim  hv_19) ⟨tg_851, tg_101, ok_X4_rim, Nat.le_of_ble_eq_true rfl, Nat.le_of_ble_eq_true rfl⟩ tg_849 tg_850 rfl (Nat.le_of_ble_eq_true rfl) dX8_readDrawing_99 ⟨Nat.le_refl 0, Nat.le_refl 0⟩ ?_
        refine G.lor C dX8_readDrawing_102 ?_
        obtain ⟨M_22, hv_21, h⟩ := bd_ex h
        refine G.callV (rest := []) C (s_X7_setLatestInk_3 hE  hv_21) ⟨tg_848, tg_92, ok_X7_setLatestInk, Nat.le_of_ble_eq_true rfl, Nat.le_of_ble_eq_true rfl⟩ tg_845 tg_846 tg_847 (sc_3 hE) rfl rfl (Nat.le_of_ble_eq_true rfl) dX8_readDrawing_103 ⟨Nat.le_refl 0, Nat.le_refl 0⟩ ?_
        refine G.goto (tgt := 132) C dX8_readDrawing_106 (by decide) ?_
        cases h
        exact G.vret C hr dX8_readDrawing_132
    · have h := it_t h hc
      refine G.aload_n C 5 dX8_readDrawing_60 rfl rfl ?_
      refine G.getR (k := 1) C k_X8 (sc_1 hE) rfl (by decide) tg_195 dX8_readDrawing_61 ?_
      refine G.lload C 0 dX8_readDrawing_64 rfl ?_
      refine G.iload_n C 4 dX8_readDrawing_66 rfl rfl ?_
      refine G.iload_n C 3 dX8_readDrawing_67 rfl rfl ?_
      refine G.iload C 2 dX8_readDrawing_68 rfl ?_
      refine G.iload C 1 dX8_readDrawing_70 rfl ?_
      obtain ⟨v_24, hv_23, h⟩ := bd_ex h
      refine G.callS (rest := [.long v_14, .ref (eA E 3)]) C (s_X4_block  hv_23) ⟨tg_844, tg_101, ok_X4_block, Nat.le_of_ble_eq_true rfl, Nat.le_of_ble_eq_true rfl⟩ tg_842 tg_843 rfl (Nat.le_of_ble_eq_true rfl) dX8_readDrawing_72 ⟨Nat.le_refl 0, Nat.le_refl 0⟩ ?_
      refine G.lor C dX8_readDrawing_75 ?_
      obtain ⟨M_26, hv_25, h⟩ := bd_ex h
      refine G.callV (rest := []) C (s_X7_setLatestInk_3 hE  hv_25) ⟨tg_848, tg_92, ok_X7_setLatestInk, Nat.le_of_ble_eq_true rfl, Nat.le_of_ble_eq_true rfl⟩ tg_845 tg_846 tg_847 (sc_3 hE) rfl rfl (Nat.le_of_ble_eq_true rfl) dX8_readDrawing_76 ⟨Nat.le_refl 0, Nat.le_refl 0⟩ ?_
      refine G.goto (tgt := 132) C dX8_readDrawing_79 (by decide) ?_
      cases h
      exact G.vret C hr dX8_readDrawing_132
  · have h := it_f h hc
    cases h
    exact G.vret C hr dX8_readDrawing_45
def f_X8_readDrawing_1 (x1 : Int32) (M : Mm) : Option Mm := bb_X8_readDrawing_1_0 x1 M
theorem s_X8_readDrawing_1 {l : Launch} {E : Ev} {x1 : Int32} {M : Mm} {M' : Mm} (hE : Has shC (eH E)) (h : f_X8_readDrawing_1 x1 M = some M') : MetA l yX8_readDrawing cX8_readDrawing 8 none 4 E [.ref (eA E 1), .int x1] M none M' := by
  refine MetA.of (by decide +kernel) (Nat.le_of_ble_eq_true rfl) ?_
  intro p e s m below meth c C hr hnm
  exact G.sub [0, 1] rfl (gb_X8_readDrawing_1_0 hE C hr  h)
def bb_X8_readLettersOfWord_1_83 (k_32 : Int32 → Int32 → Int32 → Int32 → Mm → Option Mm) (x1 : Int32) (x2 : Int32) (x4 : Int32) (x5 : Int32) (s0 : Int32) (M : Mm) : Option Mm := if s0 = 0 then (ltv (wI M 1 4 ((M.1 1 4) + (1 : Int32))) fun M_16 => ltv (x4 + (1 : Int32)) fun x4_17 => k_32 x1 x2 s0 x4_17 M_16) else (gd (inb (((8 : Int32) * (M.1 3 8)) + x2) 48) (ltv (wI M 6 (ix (((8 : Int32) * (M.1 3 8)) + x2)) x5) fun M_19 => ltv (x2 + (1 : Int32)) fun x2_20 => ltv (wI M_19 1 4 ((M_19.1 1 4) + (1 : Int32))) fun M_21 => ltv (x4 + (1 : Int32)) fun x4_22 => k_32 x1 x2_20 s0 x4_22 M_21))
set_option maxHeartbeats 4000000 in
set_option maxRecDepth 100000 in
theorem gb_X8_readLettersOfWord_1_83  {k_32 : Int32 → Int32 → Int32 → Int32 → Mm → Option Mm} {x1 : Int32} {x2 : Int32} {x4 : Int32} {x5 : Int32} {s0 : Int32} {M : Mm} {M' : Mm} (hE : Has shC (eH E)) (C : Cx RX8 cX8_readLettersOfWord 6 p (rmD 3) s m args meth c E) (hr : meth.sig.returnType = none) (hk_32 : ∀ (x1 : Int32) (x2 : Int32) (x3 : Int32) (x4 : Int32) (M : Mm), k_32 x1 x2 x3 x4 M = some M' → G p l e (rmD 3) s m args below meth c E 6 0 0 (QR below args s E 0 0 none M') 32 [(0, .ref (eA E 1)), (1, .int x1), (2, .int x2), (3, .int x3), (4, .int x4)] [] M) (h : bb_X8_readLettersOfWord_1_83 k_32 x1 x2 x4 x5 s0 M = some M') : G p l e (rmD 3) s m args below meth c E 6 0 0 (QR below args s E 0 0 none M') 83 [(0, .ref (eA E 1)), (1, .int x1), (2, .int x2), (4, .int x4), (5, .int x5)] [.int s0] M := by
  unfold bb_X8_readLettersOfWord_1_83 at h
  refine G.istore_n (L' := [(3, .int s0), (0, .ref (eA E 1)), (1, .int x1), (2, .int x2), (4, .int x4), (5, .int x5)]) C dX8_readLettersOfWord_83 rfl rfl (by decide) rfl ?_
  refine G.iload_n C 0 dX8_readLettersOfWord_84 rfl rfl ?_
  refine G.if_eq (tgt := 113) C dX8_readLettersOfWord_85 (by decide) (fun hc => ?_) (fun hc => ?_)
  · have h := it_t h hc
    refine G.aload_n C 1 dX8_readLettersOfWord_113 rfl rfl ?_
    refine G.dup C dX8_readLettersOfWord_114 rfl ?_
    refine G.getI (k := 4) C k_X8 (sc_1 hE) rfl (by decide) tg_200 dX8_readLettersOfWord_115 ?_
    refine G.iconst (v := (1 : Int32)) C dX8_readLettersOfWord_118 (by decide) ?_
    refine G.iadd C dX8_readLettersOfWord_119 ?_
    obtain ⟨M_16, eM_16, h⟩ := ltv_ex h
    refine G.putI (k := 4) C k_X8 (sc_1 hE) rfl (by decide) tg_200 rfl rfl dX8_readLettersOfWord_120 eM_16 ?_
    obtain ⟨x4_17, ex4_17, h⟩ := ltv_ex h
    refine G.iinc (L' := [(4, .int x4_17), (3, .int s0), (0, .ref (eA E 1)), (1, .int x1), (2, .int x2), (5, .int x5)]) C 4 dX8_readLettersOfWord_123 rfl (ex4_17.trans rfl) (by decide) rfl ?_
    refine G.goto (tgt := 32) C dX8_readLettersOfWord_126 (by decide) ?_
    exact G.sub [2, 3, 4, 1, 0] rfl (hk_32 _ _ _ _ _  h)
  · have h := it_f h hc
    refine G.aload_n C 1 dX8_readLettersOfWord_88 rfl rfl ?_
    refine G.getR (k := 1) C k_X8 (sc_1 hE) rfl (by decide) tg_195 dX8_readLettersOfWord_89 ?_
    refine G.getRN (k := 2) C k_X7 (sc_3 hE) rfl (by decide) tw_141 dX8_readLettersOfWord_92 ?_
    refine G.bipush (v := (8 : Int32)) C dX8_readLettersOfWord_95 (by decide) ?_
    refine G.aload_n C 1 dX8_readLettersOfWord_97 rfl rfl ?_
    refine G.getR (k := 1) C k_X8 (sc_1 hE) rfl (by decide) tg_195 dX8_readLettersOfWord_98 ?_
    refine G.getIN (k := 8) C k_X7 (sc_3 hE) rfl (by decide) tw_165 dX8_readLettersOfWord_101 ?_
    refine G.imul C dX8_readLettersOfWord_104 ?_
    refine G.iload_n C 3 dX8_readLettersOfWord_105 rfl rfl ?_
    refine G.iadd C dX8_readLettersOfWord_106 ?_
    refine G.iload C 5 dX8_readLettersOfWord_107 rfl ?_
    obtain ⟨hg_18, h⟩ := gd_ex h
    obtain ⟨M_19, eM_19, h⟩ := ltv_ex h
    refine G.sI (j := (ix (((8 : Int32) * (M.1 3 8)) + x2))) C (sc_6 hE) hg_18 rfl dX8_readLettersOfWord_109 eM_19 ?_
    obtain ⟨x2_20, ex2_20, h⟩ := ltv_ex h
    refine G.iinc (L' := [(2, .int x2_20), (3, .int s0), (0, .ref (eA E 1)), (1, .int x1), (4, .int x4), (5, .int x5)]) C 3 dX8_readLettersOfWord_110 rfl (ex2_20.trans rfl) (by decide) rfl ?_
    refine G.aload_n C 2 dX8_readLettersOfWord_113 rfl rfl ?_
    refine G.dup C dX8_readLettersOfWord_114 rfl ?_
    refine G.getI (k := 4) C k_X8 (sc_1 hE) rfl (by decide) tg_200 dX8_readLettersOfWord_115 ?_
    refine G.iconst (v := (1 : Int32)) C dX8_readLettersOfWord_118 (by decide) ?_
    refine G.iadd C dX8_readLettersOfWord_119 ?_
    obtain ⟨M_21, eM_21, h⟩ := ltv_ex h
    refine G.putI (k := 4) C k_X8 (sc_1 hE) rfl (by decide) tg_200 rfl rfl dX8_readLettersOfWord_120 eM_21 ?_
    obtain ⟨x4_22, ex4_22, h⟩ := ltv_ex h
    refine G.iinc (L' := [(4, .int x4_22), (2, .int x2_20), (3, .int s0), (0, .ref (eA E 1)), (1, .int x1), (5, .int x5)]) C 4 dX8_readLettersOfWord_123 rfl (ex4_22.trans rfl) (by decide) rfl ?_
    refine G.goto (tgt := 32) C dX8_readLettersOfWord_126 (by decide) ?_
    exact G.sub [3, 4, 1, 2, 0] rfl (hk_32 _ _ _ _ _  h)
def bb_X8_readLettersOfWord_1_82 (k_32 : Int32 → Int32 → Int32 → Int32 → Mm → Option Mm) (x1 : Int32) (x2 : Int32) (x4 : Int32) (x5 : Int32) (M : Mm) : Option Mm := bb_X8_readLettersOfWord_1_83 k_32 x1 x2 x4 x5 (0 : Int32) M
set_option maxHeartbeats 4000000 in
set_option maxRecDepth 100000 in
theorem gb_X8_readLettersOfWord_1_82  {k_32 : Int32 → Int32 → Int32 → Int32 → Mm → Option Mm} {x1 : Int32} {x2 : Int32} {x4 : Int32} {x5 : Int32} {M : Mm} {M' : Mm} (hE : Has shC (eH E)) (C : Cx RX8 cX8_readLettersOfWord 6 p (rmD 3) s m args meth c E) (hr : meth.sig.returnType = none) (hk_32 : ∀ (x1 : Int32) (x2 : Int32) (x3 : Int32) (x4 : Int32) (M : Mm), k_32 x1 x2 x3 x4 M = some M' → G p l e (rmD 3) s m args below meth c E 6 0 0 (QR below args s E 0 0 none M') 32 [(0, .ref (eA E 1)), (1, .int x1), (2, .int x2), (3, .int x3), (4, .int x4)] [] M) (h : bb_X8_readLettersOfWord_1_82 k_32 x1 x2 x4 x5 M = some M') : G p l e (rmD 3) s m args below meth c E 6 0 0 (QR below args s E 0 0 none M') 82 [(0, .ref (eA E 1)), (1, .int x1), (2, .int x2), (4, .int x4), (5, .int x5)] [] M := by
  unfold bb_X8_readLettersOfWord_1_82 at h
  refine G.iconst (v := (0 : Int32)) C dX8_readLettersOfWord_82 (by decide) ?_
  exact G.sub [0, 1, 2, 3, 4] rfl (gb_X8_readLettersOfWord_1_83 hE C hr hk_32  h)
def bb_X8_readLettersOfWord_1_129 (x1 : Int32) (x2 : Int32) (x3 : Int32) (M : Mm) : Option Mm := if (M.1 1 4) = x1 then (bd (f_X8_fail_1 (1 : Int32) x1 M) fun M_15 => some M_15) else (if x3 = 0 then (bd (f_X8_fail_1 (2 : Int32) x1 M) fun M_13 => some M_13) else (gd (inb (M.1 3 8) 6) (ltv (wI M 7 (ix (M.1 3 8)) x2) fun M_10 => ltv (wI M_10 3 8 ((M_10.1 3 8) + (1 : Int32))) fun M_11 => some M_11)))
set_option maxHeartbeats 4000000 in
set_option maxRecDepth 100000 in
theorem gb_X8_readLettersOfWord_1_129  {x1 : Int32} {x2 : Int32} {x3 : Int32} {M : Mm} {M' : Mm} (hE : Has shC (eH E)) (C : Cx RX8 cX8_readLettersOfWord 6 p (rmD 3) s m args meth c E) (hr : meth.sig.returnType = none) (h : bb_X8_readLettersOfWord_1_129 x1 x2 x3 M = some M') : G p l e (rmD 3) s m args below meth c E 6 0 0 (QR below args s E 0 0 none M') 129 [(0, .ref (eA E 1)), (1, .int x1), (2, .int x2), (3, .int x3)] [] M := by
  unfold bb_X8_readLettersOfWord_1_129 at h
  refine G.aload_n C 0 dX8_readLettersOfWord_129 rfl rfl ?_
  refine G.getI (k := 4) C k_X8 (sc_1 hE) rfl (by decide) tg_200 dX8_readLettersOfWord_130 ?_
  refine G.iload_n C 1 dX8_readLettersOfWord_133 rfl rfl ?_
  refine G.icmp_ne (tgt := 146) C dX8_readLettersOfWord_134 (by decide) (fun hc => ?_) (fun hc => ?_)
  · have h := it_f h hc
    refine G.iload_n C 3 dX8_readLettersOfWord_146 rfl rfl ?_
    refine G.if_ne (tgt := 159) C dX8_readLettersOfWord_147 (by decide) (fun hc => ?_) (fun hc => ?_)
    · have h := it_f h hc
      refine G.aload_n C 0 dX8_readLettersOfWord_159 rfl rfl ?_
      refine G.getR (k := 1) C k_X8 (sc_1 hE) rfl (by decide) tg_195 dX8_readLettersOfWord_160 ?_
      refine G.getRN (k := 3) C k_X7 (sc_3 hE) rfl (by decide) tw_144 dX8_readLettersOfWord_163 ?_
      refine G.aload_n C 0 dX8_readLettersOfWord_166 rfl rfl ?_
      refine G.getR (k := 1) C k_X8 (sc_1 hE) rfl (by decide) tg_195 dX8_readLettersOfWord_167 ?_
      refine G.getIN (k := 8) C k_X7 (sc_3 hE) rfl (by decide) tw_165 dX8_readLettersOfWord_170 ?_
      refine G.iload_n C 2 dX8_readLettersOfWord_173 rfl rfl ?_
      obtain ⟨hg_9, h⟩ := gd_ex h
      obtain ⟨M_10, eM_10, h⟩ := ltv_ex h
      refine G.sI (j := (ix (M.1 3 8))) C (sc_7 hE) hg_9 rfl dX8_readLettersOfWord_174 eM_10 ?_
      refine G.aload_n C 0 dX8_readLettersOfWord_175 rfl rfl ?_
      refine G.getR (k := 1) C k_X8 (sc_1 hE) rfl (by decide) tg_195 dX8_readLettersOfWord_176 ?_
      refine G.dup C dX8_readLettersOfWord_179 rfl ?_
      refine G.getIN (k := 8) C k_X7 (sc_3 hE) rfl (by decide) tw_165 dX8_readLettersOfWord_180 ?_
      refine G.iconst (v := (1 : Int32)) C dX8_readLettersOfWord_183 (by decide) ?_
      refine G.iadd C dX8_readLettersOfWord_184 ?_
      obtain ⟨M_11, eM_11, h⟩ := ltv_ex h
      refine G.putIN (k := 8) C k_X7 (sc_3 hE) rfl (by decide) tw_165 rfl rfl dX8_readLettersOfWord_185 eM_11 ?_
      cases h
      exact G.vret C hr dX8_readLettersOfWord_188
    · have h := it_t h hc
      refine G.aload_n C 0 dX8_readLettersOfWord_150 rfl rfl ?_
      refine G.iconst (v := (2 : Int32)) C dX8_readLettersOfWord_151 (by decide) ?_
      refine G.iload_n C 1 dX8_readLettersOfWord_152 rfl rfl ?_
      obtain ⟨M_13, hv_12, h⟩ := bd_ex h
      refine G.callV (rest := []) C (s_X8_fail_1 hE  hv_12) ⟨tg_795, tg_91, ok_X8_fail, Nat.le_of_ble_eq_true rfl, Nat.le_of_ble_eq_true rfl⟩ tg_792 tg_794 tg_12 (sc_1 hE) rfl rfl (Nat.le_of_ble_eq_true rfl) dX8_readLettersOfWord_153 ⟨Nat.le_refl 0, Nat.le_refl 0⟩ ?_
      refine G.goto (tgt := 188) C dX8_readLettersOfWord_156 (by decide) ?_
      cases h
      exact G.vret C hr dX8_readLettersOfWord_188
  · have h := it_t h hc
    refine G.aload_n C 0 dX8_readLettersOfWord_137 rfl rfl ?_
    refine G.iconst (v := (1 : Int32)) C dX8_readLettersOfWord_138 (by decide) ?_
    refine G.iload_n C 1 dX8_readLettersOfWord_139 rfl rfl ?_
    obtain ⟨M_15, hv_14, h⟩ := bd_ex h
    refine G.callV (rest := []) C (s_X8_fail_1 hE  hv_14) ⟨tg_795, tg_91, ok_X8_fail, Nat.le_of_ble_eq_true rfl, Nat.le_of_ble_eq_true rfl⟩ tg_792 tg_794 tg_12 (sc_1 hE) rfl rfl (Nat.le_of_ble_eq_true rfl) dX8_readLettersOfWord_140 ⟨Nat.le_refl 0, Nat.le_refl 0⟩ ?_
    refine G.goto (tgt := 188) C dX8_readLettersOfWord_143 (by decide) ?_
    cases h
    exact G.vret C hr dX8_readLettersOfWord_188
def bb_X8_readLettersOfWord_1_32 (k_32 : Int32 → Int32 → Int32 → Int32 → Mm → Option Mm) (x1 : Int32) (x2 : Int32) (x3 : Int32) (x4 : Int32) (M : Mm) : Option Mm := if (500 : Int32) ≤ x4 then (bb_X8_readLettersOfWord_1_129 x1 x2 x3 M) else (bd (f_X8_digitStands_1 M) fun v_5 => if v_5 = 0 then (bb_X8_readLettersOfWord_1_129 x1 x2 x3 M) else (bd (f_X8_here_1 M) fun v_7 => ltv (v_7 - (48 : Int32)) fun x5_8 => if x3 = 0 then (bb_X8_readLettersOfWord_1_82 k_32 x1 x2 x4 x5_8 M) else (if (8 : Int32) ≤ x2 then (bb_X8_readLettersOfWord_1_82 k_32 x1 x2 x4 x5_8 M) else (if (M.1 3 7) ≤ x5_8 then (bb_X8_readLettersOfWord_1_82 k_32 x1 x2 x4 x5_8 M) else (bb_X8_readLettersOfWord_1_83 k_32 x1 x2 x4 x5_8 (1 : Int32) M)))))
set_option maxHeartbeats 4000000 in
set_option maxRecDepth 100000 in
theorem gb_X8_readLettersOfWord_1_32  {k_32 : Int32 → Int32 → Int32 → Int32 → Mm → Option Mm} {x1 : Int32} {x2 : Int32} {x3 : Int32} {x4 : Int32} {M : Mm} {M' : Mm} (hE : Has shC (eH E)) (C : Cx RX8 cX8_readLettersOfWord 6 p (rmD 3) s m args meth c E) (hr : meth.sig.returnType = none) (hk_32 : ∀ (x1 : Int32) (x2 : Int32) (x3 : Int32) (x4 : Int32) (M : Mm), k_32 x1 x2 x3 x4 M = some M' → G p l e (rmD 3) s m args below meth c E 6 0 0 (QR below args s E 0 0 none M') 32 [(0, .ref (eA E 1)), (1, .int x1), (2, .int x2), (3, .int x3), (4, .int x4)] [] M) (h : bb_X8_readLettersOfWord_1_32 k_32 x1 x2 x3 x4 M = some M') : G p l e (rmD 3) s m args below meth c E 6 0 0 (QR below args s E 0 0 none M') 32 [(0, .ref (eA E 1)), (1, .int x1), (2, .int x2), (3, .int x3), (4, .int x4)] [] M := by
  unfold bb_X8_readLettersOfWord_1_32 at h
  refine G.iload C 4 dX8_readLettersOfWord_32 rfl ?_
  refine G.sipush (v := (500 : Int32)) C dX8_readLettersOfWord_34 (by decide) ?_
  refine G.icmp_ge (tgt := 129) C dX8_readLettersOfWord_37 (by decide) (fun hc => ?_) (fun hc => ?_)
  · have h := it_t h hc
    exact G.sub [0, 1, 2, 3] rfl (gb_X8_readLettersOfWord_1_129 hE C hr  h)
  · have h := it_f h hc
    refine G.aload_n C 0 dX8_readLettersOfWord_40 rfl rfl ?_
    obtain ⟨v_5, hv_4, h⟩ := bd_ex h
    refine G.callV (rest := []) C (s_X8_digitStands_1 hE  hv_4) ⟨tg_819, tg_91, ok_X8_digitStands, Nat.le_of_ble_eq_true rfl, Nat.le_of_ble_eq_true rfl⟩ tg_816 tg_818 tg_17 (sc_1 hE) rfl rfl (Nat.le_of_ble_eq_true rfl) dX8_readLettersOfWord_41 ⟨Nat.le_refl 0, Nat.le_refl 0⟩ ?_
    refine G.if_eq (tgt := 129) C dX8_readLettersOfWord_44 (by decide) (fun hc => ?_) (fun hc => ?_)
    · have h := it_t h hc
      exact G.sub [0, 1, 2, 3] rfl (gb_X8_readLettersOfWord_1_129 hE C hr  h)
    · have h := it_f h hc
      refine G.aload_n C 0 dX8_readLettersOfWord_47 rfl rfl ?_
      obtain ⟨v_7, hv_6, h⟩ := bd_ex h
      refine G.callV (rest := []) C (s_X8_here_1 hE  hv_6) ⟨tg_723, tg_91, ok_X8_here, Nat.le_of_ble_eq_true rfl, Nat.le_of_ble_eq_true rfl⟩ tg_720 tg_722 tg_8 (sc_1 hE) rfl rfl (Nat.le_of_ble_eq_true rfl) dX8_readLettersOfWord_48 ⟨Nat.le_refl 0, Nat.le_refl 0⟩ ?_
      refine G.bipush (v := (48 : Int32)) C dX8_readLettersOfWord_51 (by decide) ?_
      refine G.isub C dX8_readLettersOfWord_53 ?_
      obtain ⟨x5_8, ex5_8, h⟩ := ltv_ex h
      refine G.istore (L' := [(5, .int x5_8), (0, .ref (eA E 1)), (1, .int x1), (2, .int x2), (3, .int x3), (4, .int x4)]) C dX8_readLettersOfWord_54 ex5_8 (by decide) rfl ?_
      refine G.iload_n C 4 dX8_readLettersOfWord_56 rfl rfl ?_
      refine G.if_eq (tgt := 82) C dX8_readLettersOfWord_57 (by decide) (fun hc => ?_) (fun hc => ?_)
      · have h := it_t h hc
        exact G.sub [1, 2, 3, 5, 0] rfl (gb_X8_readLettersOfWord_1_82 hE C hr hk_32  h)
      · have h := it_f h hc
        refine G.iload_n C 3 dX8_readLettersOfWord_60 rfl rfl ?_
        refine G.bipush (v := (8 : Int32)) C dX8_readLettersOfWord_61 (by decide) ?_
        refine G.icmp_ge (tgt := 82) C dX8_readLettersOfWord_63 (by decide) (fun hc => ?_) (fun hc => ?_)
        · have h := it_t h hc
          exact G.sub [1, 2, 3, 5, 0] rfl (gb_X8_readLettersOfWord_1_82 hE C hr hk_32  h)
        · have h := it_f h hc
          refine G.iload C 0 dX8_readLettersOfWord_66 rfl ?_
          refine G.aload_n C 1 dX8_readLettersOfWord_68 rfl rfl ?_
          refine G.getR (k := 1) C k_X8 (sc_1 hE) rfl (by decide) tg_195 dX8_readLettersOfWord_69 ?_
          refine G.getIN (k := 7) C k_X7 (sc_3 hE) rfl (by decide) tw_160 dX8_readLettersOfWord_72 ?_
          refine G.icmp_ge (tgt := 82) C dX8_readLettersOfWord_75 (by decide) (fun hc => ?_) (fun hc => ?_)
          · have h := it_t h hc
            exact G.sub [1, 2, 3, 5, 0] rfl (gb_X8_readLettersOfWord_1_82 hE C hr hk_32  h)
          · have h := it_f h hc
            refine G.iconst (v := (1 : Int32)) C dX8_readLettersOfWord_78 (by decide) ?_
            refine G.goto (tgt := 83) C dX8_readLettersOfWord_79 (by decide) ?_
            exact G.sub [1, 2, 3, 5, 0] rfl (gb_X8_readLettersOfWord_1_83 hE C hr hk_32  h)
def b_X8_readLettersOfWord_1_32 : Nat → Int32 → Int32 → Int32 → Int32 → Mm → Option Mm
  | 0, _, _, _, _, _ => none
  | n + 1, x1, x2, x3, x4, M => bb_X8_readLettersOfWord_1_32 (b_X8_readLettersOfWord_1_32 n) x1 x2 x3 x4 M
set_option maxHeartbeats 4000000 in
theorem g_X8_readLettersOfWord_1_32  {n : Nat} {x1 : Int32} {x2 : Int32} {x3 : Int32} {x4 : Int32} {M : Mm} {M' : Mm} (hE : Has shC (eH E)) (C : Cx RX8 cX8_readLettersOfWord 6 p (rmD 3) s m args meth c E) (hr : meth.sig.returnType = none) (h : b_X8_readLettersOfWord_1_32 n x1 x2 x3 x4 M = some M') : G p l e (rmD 3) s m args below meth c E 6 0 0 (QR below args s E 0 0 none M') 32 [(0, .ref (eA E 1)), (1, .int x1), (2, .int x2), (3, .int x3), (4, .int x4)] [] M := by
  induction n generalizing x1 x2 x3 x4 M with
  | zero => cases h
  | succ n ih => exact gb_X8_readLettersOfWord_1_32 hE C hr (fun _ _ _ _ _ => ih)  h
def bb_X8_readLettersOfWord_1_0  (M : Mm) : Option Mm := bd (f_X8_skipBlanks_1 M) fun M_2 => ltv (M_2.1 1 4) fun x1_3 => if (6 : Int32) ≤ (M_2.1 3 8) then (b_X8_readLettersOfWord_1_32 FU x1_3 (0 : Int32) (0 : Int32) (0 : Int32) M_2) else (b_X8_readLettersOfWord_1_32 FU x1_3 (0 : Int32) (1 : Int32) (0 : Int32) M_2)
set_option maxHeartbeats 4000000 in
set_option maxRecDepth 100000 in
theorem gb_X8_readLettersOfWord_1_0   {M : Mm} {M' : Mm} (hE : Has shC (eH E)) (C : Cx RX8 cX8_readLettersOfWord 6 p (rmD 3) s m args meth c E) (hr : meth.sig.returnType = none) (h : bb_X8_readLettersOfWord_1_0 M = some M') : G p l e (rmD 3) s m args below meth c E 6 0 0 (QR below args s E 0 0 none M') 0 [(0, .ref (eA E 1))] [] M := by
  unfold bb_X8_readLettersOfWord_1_0 at h
  refine G.aload_n C 0 dX8_readLettersOfWord_0 rfl rfl ?_
  obtain ⟨M_2, hv_1, h⟩ := bd_ex h
  refine G.callV (rest := []) C (s_X8_skipBlanks_1 hE  hv_1) ⟨tg_719, tg_91, ok_X8_skipBlanks, Nat.le_of_ble_eq_true rfl, Nat.le_of_ble_eq_true rfl⟩ tg_716 tg_718 tg_7 (sc_1 hE) rfl rfl (Nat.le_of_ble_eq_true rfl) dX8_readLettersOfWord_1 ⟨Nat.le_refl 0, Nat.le_refl 0⟩ ?_
  refine G.aload_n C 0 dX8_readLettersOfWord_4 rfl rfl ?_
  refine G.getI (k := 4) C k_X8 (sc_1 hE) rfl (by decide) tg_200 dX8_readLettersOfWord_5 ?_
  obtain ⟨x1_3, ex1_3, h⟩ := ltv_ex h
  refine G.istore_n (L' := [(1, .int x1_3), (0, .ref (eA E 1))]) C dX8_readLettersOfWord_8 rfl ex1_3 (by decide) rfl ?_
  refine G.iconst (v := (0 : Int32)) C dX8_readLettersOfWord_9 (by decide) ?_
  refine G.istore_n (L' := [(2, .int (0 : Int32)), (1, .int x1_3), (0, .ref (eA E 1))]) C dX8_readLettersOfWord_10 rfl rfl (by decide) rfl ?_
  refine G.aload_n C 2 dX8_readLettersOfWord_11 rfl rfl ?_
  refine G.getR (k := 1) C k_X8 (sc_1 hE) rfl (by decide) tg_195 dX8_readLettersOfWord_12 ?_
  refine G.getIN (k := 8) C k_X7 (sc_3 hE) rfl (by decide) tw_165 dX8_readLettersOfWord_15 ?_
  refine G.bipush (v := (6 : Int32)) C dX8_readLettersOfWord_18 (by decide) ?_
  refine G.icmp_ge (tgt := 27) C dX8_readLettersOfWord_20 (by decide) (fun hc => ?_) (fun hc => ?_)
  · have h := it_t h hc
    refine G.iconst (v := (0 : Int32)) C dX8_readLettersOfWord_27 (by decide) ?_
    refine G.istore_n (L' := [(3, .int (0 : Int32)), (2, .int (0 : Int32)), (1, .int x1_3), (0, .ref (eA E 1))]) C dX8_readLettersOfWord_28 rfl rfl (by decide) rfl ?_
    refine G.iconst (v := (0 : Int32)) C dX8_readLettersOfWord_29 (by decide) ?_
    refine G.istore (L' := [(4, .int (0 : Int32)), (3, .int (0 : Int32)), (2, .int (0 : Int32)), (1, .int x1_3), (0, .ref (eA E 1))]) C dX8_readLettersOfWord_30 rfl (by decide) rfl ?_
    exact G.sub [4, 3, 2, 1, 0] rfl (g_X8_readLettersOfWord_1_32 hE C hr  h)
  · have h := it_f h hc
    refine G.iconst (v := (1 : Int32)) C dX8_readLettersOfWord_23 (by decide) ?_
    refine G.goto (tgt := 28) C dX8_readLettersOfWord_24 (by decide) ?_
    refine G.istore_n (L' := [(3, .int (1 : Int32)), (2, .int (0 : Int32)), (1, .int x1_3), (0, .ref (eA E 1))]) C dX8_readLettersOfWord_28 rfl rfl (by decide) rfl ?_
    refine G.iconst (v := (0 : Int32)) C dX8_readLettersOfWord_29 (by decide) ?_
    refine G.istore (L' := [(4, .int (0 : Int32)), (3, .int (1 : Int32)), (2, .int (0 : Int32)), (1, .int x1_3), (0, .ref (eA E 1))]) C dX8_readLettersOfWord_30 rfl (by decide) rfl ?_
    exact G.sub [4, 3, 2, 1, 0] rfl (g_X8_readLettersOfWord_1_32 hE C hr  h)
def f_X8_readLettersOfWord_1  (M : Mm) : Option Mm := bb_X8_readLettersOfWord_1_0 M
theorem s_X8_readLettersOfWord_1 {l : Launch} {E : Ev}  {M : Mm} {M' : Mm} (hE : Has shC (eH E)) (h : f_X8_readLettersOfWord_1 M = some M') : MetA l yX8_readLettersOfWord cX8_readLettersOfWord 6 none 3 E [.ref (eA E 1)] M none M' := by
  refine MetA.of (by decide +kernel) (Nat.le_of_ble_eq_true rfl) ?_
  intro p e s m below meth c C hr hnm
  exact G.sub [0] rfl (gb_X8_readLettersOfWord_1_0 hE C hr  h)
def bb_X8_readSpread_1_0  (M : Mm) : Option Mm := bd2 (f_X8_readNumber_1 (1 : Int32) (9 : Int32) M) fun v_3 M_2 => bd2 (f_X8_readNumber_1 (0 : Int32) (16 : Int32) M_2) fun v_6 M_5 => if (M_5.1 1 5) = 0 then (if v_3 < (1 : Int32) then (some M_5) else (if (10 : Int32) ≤ v_3 then (some M_5) else (gd (inb v_3 10) (ltv (wI M_5 8 (ix v_3) v_6) fun M_8 => some M_8)))) else (some M_5)
set_option maxHeartbeats 4000000 in
set_option maxRecDepth 100000 in
theorem gb_X8_readSpread_1_0   {M : Mm} {M' : Mm} (hE : Has shC (eH E)) (C : Cx RX8 cX8_readSpread 3 p (rmD 4) s m args meth c E) (hr : meth.sig.returnType = none) (h : bb_X8_readSpread_1_0 M = some M') : G p l e (rmD 4) s m args below meth c E 3 0 0 (QR below args s E 0 0 none M') 0 [(0, .ref (eA E 1))] [] M := by
  unfold bb_X8_readSpread_1_0 at h
  refine G.aload_n C 0 dX8_readSpread_0 rfl rfl ?_
  refine G.iconst (v := (1 : Int32)) C dX8_readSpread_1 (by decide) ?_
  refine G.bipush (v := (9 : Int32)) C dX8_readSpread_2 (by decide) ?_
  obtain ⟨v_3, M_2, hv_1, h⟩ := bd2_ex h
  refine G.callV (rest := []) C (s_X8_readNumber_1 hE  hv_1) ⟨tg_815, tg_91, ok_X8_readNumber, Nat.le_of_ble_eq_true rfl, Nat.le_of_ble_eq_true rfl⟩ tg_812 tg_814 tg_16 (sc_1 hE) rfl rfl (Nat.le_of_ble_eq_true rfl) dX8_readSpread_4 ⟨Nat.le_refl 0, Nat.le_refl 0⟩ ?_
  refine G.istore_n (L' := [(1, .int v_3), (0, .ref (eA E 1))]) C dX8_readSpread_7 rfl rfl (by decide) rfl ?_
  refine G.aload_n C 1 dX8_readSpread_8 rfl rfl ?_
  refine G.iconst (v := (0 : Int32)) C dX8_readSpread_9 (by decide) ?_
  refine G.bipush (v := (16 : Int32)) C dX8_readSpread_10 (by decide) ?_
  obtain ⟨v_6, M_5, hv_4, h⟩ := bd2_ex h
  refine G.callV (rest := []) C (s_X8_readNumber_1 hE  hv_4) ⟨tg_815, tg_91, ok_X8_readNumber, Nat.le_of_ble_eq_true rfl, Nat.le_of_ble_eq_true rfl⟩ tg_812 tg_814 tg_16 (sc_1 hE) rfl rfl (Nat.le_of_ble_eq_true rfl) dX8_readSpread_12 ⟨Nat.le_refl 0, Nat.le_refl 0⟩ ?_
  refine G.istore_n (L' := [(2, .int v_6), (1, .int v_3), (0, .ref (eA E 1))]) C dX8_readSpread_15 rfl rfl (by decide) rfl ?_
  refine G.aload_n C 2 dX8_readSpread_16 rfl rfl ?_
  refine G.getI (k := 5) C k_X8 (sc_1 hE) rfl (by decide) tg_201 dX8_readSpread_17 ?_
  refine G.if_ne (tgt := 50) C dX8_readSpread_20 (by decide) (fun hc => ?_) (fun hc => ?_)
  · have h := it_f h hc
    cases h
    exact G.vret C hr dX8_readSpread_50
  · have h := it_t h hc
    refine G.iload_n C 1 dX8_readSpread_23 rfl rfl ?_
    refine G.iconst (v := (1 : Int32)) C dX8_readSpread_24 (by decide) ?_
    refine G.icmp_lt (tgt := 50) C dX8_readSpread_25 (by decide) (fun hc => ?_) (fun hc => ?_)
    · have h := it_t h hc
      cases h
      exact G.vret C hr dX8_readSpread_50
    · have h := it_f h hc
      refine G.iload_n C 1 dX8_readSpread_28 rfl rfl ?_
      refine G.aload_n C 2 dX8_readSpread_29 rfl rfl ?_
      refine G.getR (k := 1) C k_X8 (sc_1 hE) rfl (by decide) tg_195 dX8_readSpread_30 ?_
      refine G.getRN (k := 4) C k_X7 (sc_3 hE) rfl (by decide) tw_146 dX8_readSpread_33 ?_
      refine G.alen (v := (10 : Int32)) C (sc_8 hE) rfl (by decide) dX8_readSpread_36 ?_
      refine G.icmp_ge (tgt := 50) C dX8_readSpread_37 (by decide) (fun hc => ?_) (fun hc => ?_)
      · have h := it_t h hc
        cases h
        exact G.vret C hr dX8_readSpread_50
      · have h := it_f h hc
        refine G.aload_n C 2 dX8_readSpread_40 rfl rfl ?_
        refine G.getR (k := 1) C k_X8 (sc_1 hE) rfl (by decide) tg_195 dX8_readSpread_41 ?_
        refine G.getRN (k := 4) C k_X7 (sc_3 hE) rfl (by decide) tw_146 dX8_readSpread_44 ?_
        refine G.iload_n C 1 dX8_readSpread_47 rfl rfl ?_
        refine G.iload_n C 0 dX8_readSpread_48 rfl rfl ?_
        obtain ⟨hg_7, h⟩ := gd_ex h
        obtain ⟨M_8, eM_8, h⟩ := ltv_ex h
        refine G.sI (j := (ix v_3)) C (sc_8 hE) hg_7 rfl dX8_readSpread_49 eM_8 ?_
        cases h
        exact G.vret C hr dX8_readSpread_50
def f_X8_readSpread_1  (M : Mm) : Option Mm := bb_X8_readSpread_1_0 M
theorem s_X8_readSpread_1 {l : Launch} {E : Ev}  {M : Mm} {M' : Mm} (hE : Has shC (eH E)) (h : f_X8_readSpread_1 M = some M') : MetA l yX8_readSpread cX8_readSpread 3 none 4 E [.ref (eA E 1)] M none M' := by
  refine MetA.of (by decide +kernel) (Nat.le_of_ble_eq_true rfl) ?_
  intro p e s m below meth c C hr hnm
  exact G.sub [0] rfl (gb_X8_readSpread_1_0 hE C hr  h)
def bb_X8_readRest_1_0 (x1 : Int32) (M : Mm) : Option Mm := if x1 = (0 : Int32) then (bd (f_X7_addLetter_3 (0 : Int64) M) fun M_2 => some M_2) else (if x1 = (1 : Int32) then (bd (f_X8_readCopy_1 x1 M) fun M_4 => some M_4) else (if x1 = (2 : Int32) then (bd (f_X8_readCopy_1 x1 M) fun M_6 => some M_6) else (if x1 = (3 : Int32) then (bd (f_X8_readDrawing_1 x1 M) fun M_8 => some M_8) else (if x1 = (4 : Int32) then (bd (f_X8_readDrawing_1 x1 M) fun M_10 => some M_10) else (if x1 = (5 : Int32) then (bd (f_X8_readDrawing_1 x1 M) fun M_12 => some M_12) else (if x1 = (6 : Int32) then (bd (f_X8_readLettersOfWord_1 M) fun M_14 => some M_14) else (if x1 = (7 : Int32) then (bd (f_X8_readSpread_1 M) fun M_16 => some M_16) else (bd (f_X8_readDrawing_1 x1 M) fun M_18 => some M_18))))))))
set_option maxHeartbeats 4000000 in
set_option maxRecDepth 100000 in
theorem gb_X8_readRest_1_0  {x1 : Int32} {M : Mm} {M' : Mm} (hE : Has shC (eH E)) (C : Cx RX8 cX8_readRest 2 p (rmD 5) s m args meth c E) (hr : meth.sig.returnType = none) (h : bb_X8_readRest_1_0 x1 M = some M') : G p l e (rmD 5) s m args below meth c E 2 0 0 (QR below args s E 0 0 none M') 0 [(0, .ref (eA E 1)), (1, .int x1)] [] M := by
  unfold bb_X8_readRest_1_0 at h
  refine G.iload_n C 1 dX8_readRest_0 rfl rfl ?_
  by_cases hc0 : x1 = (0 : Int32)
  · have h := it_t h hc0
    refine G.tableIn (tgt := 48) C dX8_readRest_1 (by rw [hc0]; decide) (by rw [hc0]; decide) (by rw [hc0]; rfl) (by decide) ?_
    refine G.aload_n C 0 dX8_readRest_48 rfl rfl ?_
    refine G.getR (k := 1) C k_X8 (sc_1 hE) rfl (by decide) tg_195 dX8_readRest_49 ?_
    refine G.lconst (v := (0 : Int64)) C dX8_readRest_52 (by decide) ?_
    obtain ⟨M_2, hv_1, h⟩ := bd_ex h
    refine G.callV (rest := []) C (s_X7_addLetter_3 hE  hv_1) ⟨tg_807, tg_92, ok_X7_addLetter, Nat.le_of_ble_eq_true rfl, Nat.le_of_ble_eq_true rfl⟩ tg_804 tg_805 tg_806 (sc_3 hE) rfl rfl (Nat.le_of_ble_eq_true rfl) dX8_readRest_53 ⟨Nat.le_refl 0, Nat.le_refl 0⟩ ?_
    refine G.goto (tgt := 86) C dX8_readRest_56 (by decide) ?_
    cases h
    exact G.vret C hr dX8_readRest_86
  have h := it_f h hc0
  by_cases hc1 : x1 = (1 : Int32)
  · have h := it_t h hc1
    refine G.tableIn (tgt := 59) C dX8_readRest_1 (by rw [hc1]; decide) (by rw [hc1]; decide) (by rw [hc1]; rfl) (by decide) ?_
    refine G.aload_n C 0 dX8_readRest_59 rfl rfl ?_
    refine G.iload_n C 1 dX8_readRest_60 rfl rfl ?_
    obtain ⟨M_4, hv_3, h⟩ := bd_ex h
    refine G.callV (rest := []) C (s_X8_readCopy_1 hE  hv_3) ⟨tg_811, tg_91, ok_X8_readCopy, Nat.le_of_ble_eq_true rfl, Nat.le_of_ble_eq_true rfl⟩ tg_808 tg_810 tg_15 (sc_1 hE) rfl rfl (Nat.le_of_ble_eq_true rfl) dX8_readRest_61 ⟨Nat.le_refl 0, Nat.le_refl 0⟩ ?_
    refine G.goto (tgt := 86) C dX8_readRest_64 (by decide) ?_
    cases h
    exact G.vret C hr dX8_readRest_86
  have h := it_f h hc1
  by_cases hc2 : x1 = (2 : Int32)
  · have h := it_t h hc2
    refine G.tableIn (tgt := 59) C dX8_readRest_1 (by rw [hc2]; decide) (by rw [hc2]; decide) (by rw [hc2]; rfl) (by decide) ?_
    refine G.aload_n C 0 dX8_readRest_59 rfl rfl ?_
    refine G.iload_n C 1 dX8_readRest_60 rfl rfl ?_
    obtain ⟨M_6, hv_5, h⟩ := bd_ex h
    refine G.callV (rest := []) C (s_X8_readCopy_1 hE  hv_5) ⟨tg_811, tg_91, ok_X8_readCopy, Nat.le_of_ble_eq_true rfl, Nat.le_of_ble_eq_true rfl⟩ tg_808 tg_810 tg_15 (sc_1 hE) rfl rfl (Nat.le_of_ble_eq_true rfl) dX8_readRest_61 ⟨Nat.le_refl 0, Nat.le_refl 0⟩ ?_
    refine G.goto (tgt := 86) C dX8_readRest_64 (by decide) ?_
    cases h
    exact G.vret C hr dX8_readRest_86
  have h := it_f h hc2
  by_cases hc3 : x1 = (3 : Int32)
  · have h := it_t h hc3
    refine G.tableIn (tgt := 81) C dX8_readRest_1 (by rw [hc3]; decide) (by rw [hc3]; decide) (by rw [hc3]; rfl) (by decide) ?_
    refine G.aload_n C 0 dX8_readRest_81 rfl rfl ?_
    refine G.iload_n C 1 dX8_readRest_82 rfl rfl ?_
    obtain ⟨M_8, hv_7, h⟩ := bd_ex h
    refine G.callV (rest := []) C (s_X8_readDrawing_1 hE  hv_7) ⟨tg_836, tg_91, ok_X8_readDrawing, Nat.le_of_ble_eq_true rfl, Nat.le_of_ble_eq_true rfl⟩ tg_833 tg_835 tg_20 (sc_1 hE) rfl rfl (Nat.le_of_ble_eq_true rfl) dX8_readRest_83 ⟨Nat.le_refl 0, Nat.le_refl 0⟩ ?_
    cases h
    exact G.vret C hr dX8_readRest_86
  have h := it_f h hc3
  by_cases hc4 : x1 = (4 : Int32)
  · have h := it_t h hc4
    refine G.tableIn (tgt := 81) C dX8_readRest_1 (by rw [hc4]; decide) (by rw [hc4]; decide) (by rw [hc4]; rfl) (by decide) ?_
    refine G.aload_n C 0 dX8_readRest_81 rfl rfl ?_
    refine G.iload_n C 1 dX8_readRest_82 rfl rfl ?_
    obtain ⟨M_10, hv_9, h⟩ := bd_ex h
    refine G.callV (rest := []) C (s_X8_readDrawing_1 hE  hv_9) ⟨tg_836, tg_91, ok_X8_readDrawing, Nat.le_of_ble_eq_true rfl, Nat.le_of_ble_eq_true rfl⟩ tg_833 tg_835 tg_20 (sc_1 hE) rfl rfl (Nat.le_of_ble_eq_true rfl) dX8_readRest_83 ⟨Nat.le_refl 0, Nat.le_refl 0⟩ ?_
    cases h
    exact G.vret C hr dX8_readRest_86
  have h := it_f h hc4
  by_cases hc5 : x1 = (5 : Int32)
  · have h := it_t h hc5
    refine G.tableIn (tgt := 81) C dX8_readRest_1 (by rw [hc5]; decide) (by rw [hc5]; decide) (by rw [hc5]; rfl) (by decide) ?_
    refine G.aload_n C 0 dX8_readRest_81 rfl rfl ?_
    refine G.iload_n C 1 dX8_readRest_82 rfl rfl ?_
    obtain ⟨M_12, hv_11, h⟩ := bd_ex h
    refine G.callV (rest := []) C (s_X8_readDrawing_1 hE  hv_11) ⟨tg_836, tg_91, ok_X8_readDrawing, Nat.le_of_ble_eq_true rfl, Nat.le_of_ble_eq_true rfl⟩ tg_833 tg_835 tg_20 (sc_1 hE) rfl rfl (Nat.le_of_ble_eq_true rfl) dX8_readRest_83 ⟨Nat.le_refl 0, Nat.le_refl 0⟩ ?_
    cases h
    exact G.vret C hr dX8_readRest_86
  have h := it_f h hc5
  by_cases hc6 : x1 = (6 : Int32)
  · have h := it_t h hc6
    refine G.tableIn (tgt := 67) C dX8_readRest_1 (by rw [hc6]; decide) (by rw [hc6]; decide) (by rw [hc6]; rfl) (by decide) ?_
    refine G.aload_n C 0 dX8_readRest_67 rfl rfl ?_
    obtain ⟨M_14, hv_13, h⟩ := bd_ex h
    refine G.callV (rest := []) C (s_X8_readLettersOfWord_1 hE  hv_13) ⟨tg_828, tg_91, ok_X8_readLettersOfWord, Nat.le_of_ble_eq_true rfl, Nat.le_of_ble_eq_true rfl⟩ tg_825 tg_827 tg_18 (sc_1 hE) rfl rfl (Nat.le_of_ble_eq_true rfl) dX8_readRest_68 ⟨Nat.le_refl 0, Nat.le_refl 0⟩ ?_
    refine G.goto (tgt := 86) C dX8_readRest_71 (by decide) ?_
    cases h
    exact G.vret C hr dX8_readRest_86
  have h := it_f h hc6
  by_cases hc7 : x1 = (7 : Int32)
  · have h := it_t h hc7
    refine G.tableIn (tgt := 74) C dX8_readRest_1 (by rw [hc7]; decide) (by rw [hc7]; decide) (by rw [hc7]; rfl) (by decide) ?_
    refine G.aload_n C 0 dX8_readRest_74 rfl rfl ?_
    obtain ⟨M_16, hv_15, h⟩ := bd_ex h
    refine G.callV (rest := []) C (s_X8_readSpread_1 hE  hv_15) ⟨tg_832, tg_91, ok_X8_readSpread, Nat.le_of_ble_eq_true rfl, Nat.le_of_ble_eq_true rfl⟩ tg_829 tg_831 tg_19 (sc_1 hE) rfl rfl (Nat.le_of_ble_eq_true rfl) dX8_readRest_75 ⟨Nat.le_refl 0, Nat.le_refl 0⟩ ?_
    refine G.goto (tgt := 86) C dX8_readRest_78 (by decide) ?_
    cases h
    exact G.vret C hr dX8_readRest_86
  have h := it_f h hc7
  refine G.tableOut (tgt := 81) C dX8_readRest_1 (by have q0 := ne_toInt (z := 0) (by decide) hc0; have q1 := ne_toInt (z := 1) (by decide) hc1; have q2 := ne_toInt (z := 2) (by decide) hc2; have q3 := ne_toInt (z := 3) (by decide) hc3; have q4 := ne_toInt (z := 4) (by decide) hc4; have q5 := ne_toInt (z := 5) (by decide) hc5; have q6 := ne_toInt (z := 6) (by decide) hc6; have q7 := ne_toInt (z := 7) (by decide) hc7; omega) (by decide) ?_
  refine G.aload_n C 0 dX8_readRest_81 rfl rfl ?_
  refine G.iload_n C 1 dX8_readRest_82 rfl rfl ?_
  obtain ⟨M_18, hv_17, h⟩ := bd_ex h
  refine G.callV (rest := []) C (s_X8_readDrawing_1 hE  hv_17) ⟨tg_836, tg_91, ok_X8_readDrawing, Nat.le_of_ble_eq_true rfl, Nat.le_of_ble_eq_true rfl⟩ tg_833 tg_835 tg_20 (sc_1 hE) rfl rfl (Nat.le_of_ble_eq_true rfl) dX8_readRest_83 ⟨Nat.le_refl 0, Nat.le_refl 0⟩ ?_
  cases h
  exact G.vret C hr dX8_readRest_86
def f_X8_readRest_1 (x1 : Int32) (M : Mm) : Option Mm := bb_X8_readRest_1_0 x1 M
theorem s_X8_readRest_1 {l : Launch} {E : Ev} {x1 : Int32} {M : Mm} {M' : Mm} (hE : Has shC (eH E)) (h : f_X8_readRest_1 x1 M = some M') : MetA l yX8_readRest cX8_readRest 2 none 5 E [.ref (eA E 1), .int x1] M none M' := by
  refine MetA.of (by decide +kernel) (Nat.le_of_ble_eq_true rfl) ?_
  intro p e s m below meth c C hr hnm
  exact G.sub [0, 1] rfl (gb_X8_readRest_1_0 hE C hr  h)
def bb_X8_readSemicolon_1_0  (M : Mm) : Option Mm := if (M.1 1 5) = 0 then (bd (f_X8_skipBlanks_1 M) fun M_2 => bd (f_X8_here_1 M_2) fun v_4 => if v_4 = (59 : Int32) then (ltv (wI M_2 1 4 ((M_2.1 1 4) + (1 : Int32))) fun M_7 => some M_7) else (bd (f_X8_fail_1 (1 : Int32) (M_2.1 1 4) M_2) fun M_6 => some M_6)) else (some M)
set_option maxHeartbeats 4000000 in
set_option maxRecDepth 100000 in
theorem gb_X8_readSemicolon_1_0   {M : Mm} {M' : Mm} (hE : Has shC (eH E)) (C : Cx RX8 cX8_readSemicolon 1 p (rmD 3) s m args meth c E) (hr : meth.sig.returnType = none) (h : bb_X8_readSemicolon_1_0 M = some M') : G p l e (rmD 3) s m args below meth c E 1 0 0 (QR below args s E 0 0 none M') 0 [(0, .ref (eA E 1))] [] M := by
  unfold bb_X8_readSemicolon_1_0 at h
  refine G.aload_n C 0 dX8_readSemicolon_0 rfl rfl ?_
  refine G.getI (k := 5) C k_X8 (sc_1 hE) rfl (by decide) tg_201 dX8_readSemicolon_1 ?_
  refine G.if_eq (tgt := 8) C dX8_readSemicolon_4 (by decide) (fun hc => ?_) (fun hc => ?_)
  · have h := it_t h hc
    refine G.aload_n C 0 dX8_readSemicolon_8 rfl rfl ?_
    obtain ⟨M_2, hv_1, h⟩ := bd_ex h
    refine G.callV (rest := []) C (s_X8_skipBlanks_1 hE  hv_1) ⟨tg_719, tg_91, ok_X8_skipBlanks, Nat.le_of_ble_eq_true rfl, Nat.le_of_ble_eq_true rfl⟩ tg_716 tg_718 tg_7 (sc_1 hE) rfl rfl (Nat.le_of_ble_eq_true rfl) dX8_readSemicolon_9 ⟨Nat.le_refl 0, Nat.le_refl 0⟩ ?_
    refine G.aload_n C 0 dX8_readSemicolon_12 rfl rfl ?_
    obtain ⟨v_4, hv_3, h⟩ := bd_ex h
    refine G.callV (rest := []) C (s_X8_here_1 hE  hv_3) ⟨tg_723, tg_91, ok_X8_here, Nat.le_of_ble_eq_true rfl, Nat.le_of_ble_eq_true rfl⟩ tg_720 tg_722 tg_8 (sc_1 hE) rfl rfl (Nat.le_of_ble_eq_true rfl) dX8_readSemicolon_13 ⟨Nat.le_refl 0, Nat.le_refl 0⟩ ?_
    refine G.bipush (v := (59 : Int32)) C dX8_readSemicolon_16 (by decide) ?_
    refine G.icmp_ne (tgt := 34) C dX8_readSemicolon_18 (by decide) (fun hc => ?_) (fun hc => ?_)
    · have h := it_f h hc
      refine G.aload_n C 0 dX8_readSemicolon_34 rfl rfl ?_
      refine G.iconst (v := (1 : Int32)) C dX8_readSemicolon_35 (by decide) ?_
      refine G.aload_n C 0 dX8_readSemicolon_36 rfl rfl ?_
      refine G.getI (k := 4) C k_X8 (sc_1 hE) rfl (by decide) tg_200 dX8_readSemicolon_37 ?_
      obtain ⟨M_6, hv_5, h⟩ := bd_ex h
      refine G.callV (rest := []) C (s_X8_fail_1 hE  hv_5) ⟨tg_795, tg_91, ok_X8_fail, Nat.le_of_ble_eq_true rfl, Nat.le_of_ble_eq_true rfl⟩ tg_792 tg_794 tg_12 (sc_1 hE) rfl rfl (Nat.le_of_ble_eq_true rfl) dX8_readSemicolon_40 ⟨Nat.le_refl 0, Nat.le_refl 0⟩ ?_
      cases h
      exact G.vret C hr dX8_readSemicolon_43
    · have h := it_t h hc
      refine G.aload_n C 0 dX8_readSemicolon_21 rfl rfl ?_
      refine G.dup C dX8_readSemicolon_22 rfl ?_
      refine G.getI (k := 4) C k_X8 (sc_1 hE) rfl (by decide) tg_200 dX8_readSemicolon_23 ?_
      refine G.iconst (v := (1 : Int32)) C dX8_readSemicolon_26 (by decide) ?_
      refine G.iadd C dX8_readSemicolon_27 ?_
      obtain ⟨M_7, eM_7, h⟩ := ltv_ex h
      refine G.putI (k := 4) C k_X8 (sc_1 hE) rfl (by decide) tg_200 rfl rfl dX8_readSemicolon_28 eM_7 ?_
      refine G.goto (tgt := 43) C dX8_readSemicolon_31 (by decide) ?_
      cases h
      exact G.vret C hr dX8_readSemicolon_43
  · have h := it_f h hc
    cases h
    exact G.vret C hr dX8_readSemicolon_7
def f_X8_readSemicolon_1  (M : Mm) : Option Mm := bb_X8_readSemicolon_1_0 M
theorem s_X8_readSemicolon_1 {l : Launch} {E : Ev}  {M : Mm} {M' : Mm} (hE : Has shC (eH E)) (h : f_X8_readSemicolon_1 M = some M') : MetA l yX8_readSemicolon cX8_readSemicolon 1 none 3 E [.ref (eA E 1)] M none M' := by
  refine MetA.of (by decide +kernel) (Nat.le_of_ble_eq_true rfl) ?_
  intro p e s m below meth c C hr hnm
  exact G.sub [0] rfl (gb_X8_readSemicolon_1_0 hE C hr  h)
def bb_X8_readClause_1_61 (x1 : Int32) (x2 : Int32) (x3 : Int32) (M : Mm) : Option Mm := if (60 : Int32) ≤ x1 then (bd (f_X8_fail_1 (3 : Int32) x2 M) fun M_10 => some M_10) else (bd (f_X8_isOneTooMany_1 x3 M) fun v_12 => if v_12 = 0 then (bd (f_X8_readRest_1 x3 M) fun M_14 => bd (f_X8_readSemicolon_1 M_14) fun M_16 => some M_16) else (bd (f_X8_fail_1 (3 : Int32) x2 M) fun M_18 => some M_18))
set_option maxHeartbeats 4000000 in
set_option maxRecDepth 100000 in
theorem gb_X8_readClause_1_61  {x1 : Int32} {x2 : Int32} {x3 : Int32} {M : Mm} {M' : Mm} (hE : Has shC (eH E)) (C : Cx RX8 cX8_readClause 5 p (rmD 7) s m args meth c E) (hr : meth.sig.returnType = none) (h : bb_X8_readClause_1_61 x1 x2 x3 M = some M') : G p l e (rmD 7) s m args below meth c E 5 0 0 (QR below args s E 0 0 none M') 61 [(0, .ref (eA E 1)), (1, .int x1), (2, .int x2), (3, .int x3)] [] M := by
  unfold bb_X8_readClause_1_61 at h
  refine G.iload_n C 1 dX8_readClause_61 rfl rfl ?_
  refine G.bipush (v := (60 : Int32)) C dX8_readClause_62 (by decide) ?_
  refine G.icmp_ge (tgt := 75) C dX8_readClause_64 (by decide) (fun hc => ?_) (fun hc => ?_)
  · have h := it_t h hc
    refine G.aload_n C 0 dX8_readClause_75 rfl rfl ?_
    refine G.iconst (v := (3 : Int32)) C dX8_readClause_76 (by decide) ?_
    refine G.iload_n C 2 dX8_readClause_77 rfl rfl ?_
    obtain ⟨M_10, hv_9, h⟩ := bd_ex h
    refine G.callV (rest := []) C (s_X8_fail_1 hE  hv_9) ⟨tg_795, tg_91, ok_X8_fail, Nat.le_of_ble_eq_true rfl, Nat.le_of_ble_eq_true rfl⟩ tg_792 tg_794 tg_12 (sc_1 hE) rfl rfl (Nat.le_of_ble_eq_true rfl) dX8_readClause_78 ⟨Nat.le_refl 0, Nat.le_refl 0⟩ ?_
    refine G.goto (tgt := 93) C dX8_readClause_81 (by decide) ?_
    cases h
    exact G.vret C hr dX8_readClause_93
  · have h := it_f h hc
    refine G.aload_n C 0 dX8_readClause_67 rfl rfl ?_
    refine G.iload_n C 3 dX8_readClause_68 rfl rfl ?_
    obtain ⟨v_12, hv_11, h⟩ := bd_ex h
    refine G.callV (rest := []) C (s_X8_isOneTooMany_1 hE  hv_11) ⟨tg_799, tg_91, ok_X8_isOneTooMany, Nat.le_of_ble_eq_true rfl, Nat.le_of_ble_eq_true rfl⟩ tg_796 tg_798 tg_13 (sc_1 hE) rfl rfl (Nat.le_of_ble_eq_true rfl) dX8_readClause_69 ⟨Nat.le_refl 0, Nat.le_refl 0⟩ ?_
    refine G.if_eq (tgt := 84) C dX8_readClause_72 (by decide) (fun hc => ?_) (fun hc => ?_)
    · have h := it_t h hc
      refine G.aload_n C 0 dX8_readClause_84 rfl rfl ?_
      refine G.iload_n C 3 dX8_readClause_85 rfl rfl ?_
      obtain ⟨M_14, hv_13, h⟩ := bd_ex h
      refine G.callV (rest := []) C (s_X8_readRest_1 hE  hv_13) ⟨tg_803, tg_91, ok_X8_readRest, Nat.le_of_ble_eq_true rfl, Nat.le_of_ble_eq_true rfl⟩ tg_800 tg_802 tg_14 (sc_1 hE) rfl rfl (Nat.le_of_ble_eq_true rfl) dX8_readClause_86 ⟨Nat.le_refl 0, Nat.le_refl 0⟩ ?_
      refine G.aload_n C 0 dX8_readClause_89 rfl rfl ?_
      obtain ⟨M_16, hv_15, h⟩ := bd_ex h
      refine G.callV (rest := []) C (s_X8_readSemicolon_1 hE  hv_15) ⟨tg_857, tg_91, ok_X8_readSemicolon, Nat.le_of_ble_eq_true rfl, Nat.le_of_ble_eq_true rfl⟩ tg_854 tg_856 tg_21 (sc_1 hE) rfl rfl (Nat.le_of_ble_eq_true rfl) dX8_readClause_90 ⟨Nat.le_refl 0, Nat.le_refl 0⟩ ?_
      cases h
      exact G.vret C hr dX8_readClause_93
    · have h := it_f h hc
      refine G.aload_n C 0 dX8_readClause_75 rfl rfl ?_
      refine G.iconst (v := (3 : Int32)) C dX8_readClause_76 (by decide) ?_
      refine G.iload_n C 2 dX8_readClause_77 rfl rfl ?_
      obtain ⟨M_18, hv_17, h⟩ := bd_ex h
      refine G.callV (rest := []) C (s_X8_fail_1 hE  hv_17) ⟨tg_795, tg_91, ok_X8_fail, Nat.le_of_ble_eq_true rfl, Nat.le_of_ble_eq_true rfl⟩ tg_792 tg_794 tg_12 (sc_1 hE) rfl rfl (Nat.le_of_ble_eq_true rfl) dX8_readClause_78 ⟨Nat.le_refl 0, Nat.le_refl 0⟩ ?_
      refine G.goto (tgt := 93) C dX8_readClause_81 (by decide) ?_
      cases h
      exact G.vret C hr dX8_readClause_93
def bb_X8_readClause_1_30 (x1 : Int32) (x2 : Int32) (x3 : Int32) (s0 : Int32) (M : Mm) : Option Mm := if x3 = (-1 : Int32) then (bd (f_X8_fail_1 (1 : Int32) x2 M) fun M_6 => some M_6) else (if s0 = 0 then (bb_X8_readClause_1_61 x1 x2 x3 M) else (if (M.1 3 7) = 0 then (bd (f_X8_fail_1 (1 : Int32) x2 M) fun M_8 => some M_8) else (bb_X8_readClause_1_61 x1 x2 x3 M)))
set_option maxHeartbeats 4000000 in
set_option maxRecDepth 100000 in
theorem gb_X8_readClause_1_30  {x1 : Int32} {x2 : Int32} {x3 : Int32} {s0 : Int32} {M : Mm} {M' : Mm} (hE : Has shC (eH E)) (C : Cx RX8 cX8_readClause 5 p (rmD 7) s m args meth c E) (hr : meth.sig.returnType = none) (h : bb_X8_readClause_1_30 x1 x2 x3 s0 M = some M') : G p l e (rmD 7) s m args below meth c E 5 0 0 (QR below args s E 0 0 none M') 30 [(0, .ref (eA E 1)), (1, .int x1), (2, .int x2), (3, .int x3)] [.int s0] M := by
  unfold bb_X8_readClause_1_30 at h
  refine G.istore (L' := [(4, .int s0), (0, .ref (eA E 1)), (1, .int x1), (2, .int x2), (3, .int x3)]) C dX8_readClause_30 rfl (by decide) rfl ?_
  refine G.iload_n C 4 dX8_readClause_32 rfl rfl ?_
  refine G.iconst (v := (-1 : Int32)) C dX8_readClause_33 (by decide) ?_
  refine G.icmp_eq (tgt := 52) C dX8_readClause_34 (by decide) (fun hc => ?_) (fun hc => ?_)
  · have h := it_t h hc
    refine G.aload_n C 1 dX8_readClause_52 rfl rfl ?_
    refine G.iconst (v := (1 : Int32)) C dX8_readClause_53 (by decide) ?_
    refine G.iload_n C 3 dX8_readClause_54 rfl rfl ?_
    obtain ⟨M_6, hv_5, h⟩ := bd_ex h
    refine G.callV (rest := []) C (s_X8_fail_1 hE  hv_5) ⟨tg_795, tg_91, ok_X8_fail, Nat.le_of_ble_eq_true rfl, Nat.le_of_ble_eq_true rfl⟩ tg_792 tg_794 tg_12 (sc_1 hE) rfl rfl (Nat.le_of_ble_eq_true rfl) dX8_readClause_55 ⟨Nat.le_refl 0, Nat.le_refl 0⟩ ?_
    refine G.goto (tgt := 93) C dX8_readClause_58 (by decide) ?_
    cases h
    exact G.vret C hr dX8_readClause_93
  · have h := it_f h hc
    refine G.iload C 0 dX8_readClause_37 rfl ?_
    refine G.if_eq (tgt := 61) C dX8_readClause_39 (by decide) (fun hc => ?_) (fun hc => ?_)
    · have h := it_t h hc
      exact G.sub [1, 2, 3, 4] rfl (gb_X8_readClause_1_61 hE C hr  h)
    · have h := it_f h hc
      refine G.aload_n C 1 dX8_readClause_42 rfl rfl ?_
      refine G.getR (k := 1) C k_X8 (sc_1 hE) rfl (by decide) tg_195 dX8_readClause_43 ?_
      refine G.getIN (k := 7) C k_X7 (sc_3 hE) rfl (by decide) tw_160 dX8_readClause_46 ?_
      refine G.if_ne (tgt := 61) C dX8_readClause_49 (by decide) (fun hc => ?_) (fun hc => ?_)
      · have h := it_f h hc
        exact G.sub [1, 2, 3, 4] rfl (gb_X8_readClause_1_61 hE C hr  h)
      · have h := it_t h hc
        refine G.aload_n C 1 dX8_readClause_52 rfl rfl ?_
        refine G.iconst (v := (1 : Int32)) C dX8_readClause_53 (by decide) ?_
        refine G.iload_n C 3 dX8_readClause_54 rfl rfl ?_
        obtain ⟨M_8, hv_7, h⟩ := bd_ex h
        refine G.callV (rest := []) C (s_X8_fail_1 hE  hv_7) ⟨tg_795, tg_91, ok_X8_fail, Nat.le_of_ble_eq_true rfl, Nat.le_of_ble_eq_true rfl⟩ tg_792 tg_794 tg_12 (sc_1 hE) rfl rfl (Nat.le_of_ble_eq_true rfl) dX8_readClause_55 ⟨Nat.le_refl 0, Nat.le_refl 0⟩ ?_
        refine G.goto (tgt := 93) C dX8_readClause_58 (by decide) ?_
        cases h
        exact G.vret C hr dX8_readClause_93
def bb_X8_readClause_1_25 (x1 : Int32) (x2 : Int32) (x3 : Int32) (M : Mm) : Option Mm := bb_X8_readClause_1_30 x1 x2 x3 (1 : Int32) M
set_option maxHeartbeats 4000000 in
set_option maxRecDepth 100000 in
theorem gb_X8_readClause_1_25  {x1 : Int32} {x2 : Int32} {x3 : Int32} {M : Mm} {M' : Mm} (hE : Has shC (eH E)) (C : Cx RX8 cX8_readClause 5 p (rmD 7) s m args meth c E) (hr : meth.sig.returnType = none) (h : bb_X8_readClause_1_25 x1 x2 x3 M = some M') : G p l e (rmD 7) s m args below meth c E 5 0 0 (QR below args s E 0 0 none M') 25 [(0, .ref (eA E 1)), (1, .int x1), (2, .int x2), (3, .int x3)] [] M := by
  unfold bb_X8_readClause_1_25 at h
  refine G.iconst (v := (1 : Int32)) C dX8_readClause_25 (by decide) ?_
  refine G.goto (tgt := 30) C dX8_readClause_26 (by decide) ?_
  exact G.sub [0, 1, 2, 3] rfl (gb_X8_readClause_1_30 hE C hr  h)
def bb_X8_readClause_1_0 (x1 : Int32) (M : Mm) : Option Mm := ltv (M.1 1 4) fun x2_1 => bd2 (f_X8_readKeyword_1 M) fun v_4 M_3 => if v_4 = (3 : Int32) then (bb_X8_readClause_1_25 x1 x2_1 v_4 M_3) else (if v_4 = (4 : Int32) then (bb_X8_readClause_1_25 x1 x2_1 v_4 M_3) else (if v_4 = (5 : Int32) then (bb_X8_readClause_1_25 x1 x2_1 v_4 M_3) else (bb_X8_readClause_1_30 x1 x2_1 v_4 (0 : Int32) M_3)))
set_option maxHeartbeats 4000000 in
set_option maxRecDepth 100000 in
theorem gb_X8_readClause_1_0  {x1 : Int32} {M : Mm} {M' : Mm} (hE : Has shC (eH E)) (C : Cx RX8 cX8_readClause 5 p (rmD 7) s m args meth c E) (hr : meth.sig.returnType = none) (h : bb_X8_readClause_1_0 x1 M = some M') : G p l e (rmD 7) s m args below meth c E 5 0 0 (QR below args s E 0 0 none M') 0 [(0, .ref (eA E 1)), (1, .int x1)] [] M := by
  unfold bb_X8_readClause_1_0 at h
  refine G.aload_n C 0 dX8_readClause_0 rfl rfl ?_
  refine G.getI (k := 4) C k_X8 (sc_1 hE) rfl (by decide) tg_200 dX8_readClause_1 ?_
  obtain ⟨x2_1, ex2_1, h⟩ := ltv_ex h
  refine G.istore_n (L' := [(2, .int x2_1), (0, .ref (eA E 1)), (1, .int x1)]) C dX8_readClause_4 rfl ex2_1 (by decide) rfl ?_
  refine G.aload_n C 1 dX8_readClause_5 rfl rfl ?_
  obtain ⟨v_4, M_3, hv_2, h⟩ := bd2_ex h
  refine G.callV (rest := []) C (s_X8_readKeyword_1 hE  hv_2) ⟨tg_731, tg_91, ok_X8_readKeyword, Nat.le_of_ble_eq_true rfl, Nat.le_of_ble_eq_true rfl⟩ tg_728 tg_730 tg_10 (sc_1 hE) rfl rfl (Nat.le_of_ble_eq_true rfl) dX8_readClause_6 ⟨Nat.le_refl 0, Nat.le_refl 0⟩ ?_
  refine G.istore_n (L' := [(3, .int v_4), (2, .int x2_1), (0, .ref (eA E 1)), (1, .int x1)]) C dX8_readClause_9 rfl rfl (by decide) rfl ?_
  refine G.iload_n C 0 dX8_readClause_10 rfl rfl ?_
  refine G.iconst (v := (3 : Int32)) C dX8_readClause_11 (by decide) ?_
  refine G.icmp_eq (tgt := 25) C dX8_readClause_12 (by decide) (fun hc => ?_) (fun hc => ?_)
  · have h := it_t h hc
    exact G.sub [2, 3, 1, 0] rfl (gb_X8_readClause_1_25 hE C hr  h)
  · have h := it_f h hc
    refine G.iload_n C 0 dX8_readClause_15 rfl rfl ?_
    refine G.iconst (v := (4 : Int32)) C dX8_readClause_16 (by decide) ?_
    refine G.icmp_eq (tgt := 25) C dX8_readClause_17 (by decide) (fun hc => ?_) (fun hc => ?_)
    · have h := it_t h hc
      exact G.sub [2, 3, 1, 0] rfl (gb_X8_readClause_1_25 hE C hr  h)
    · have h := it_f h hc
      refine G.iload_n C 0 dX8_readClause_20 rfl rfl ?_
      refine G.iconst (v := (5 : Int32)) C dX8_readClause_21 (by decide) ?_
      refine G.icmp_ne (tgt := 29) C dX8_readClause_22 (by decide) (fun hc => ?_) (fun hc => ?_)
      · have h := it_f h hc
        refine G.iconst (v := (0 : Int32)) C dX8_readClause_29 (by decide) ?_
        exact G.sub [2, 3, 1, 0] rfl (gb_X8_readClause_1_30 hE C hr  h)
      · have h := it_t h hc
        exact G.sub [2, 3, 1, 0] rfl (gb_X8_readClause_1_25 hE C hr  h)
def f_X8_readClause_1 (x1 : Int32) (M : Mm) : Option Mm := bb_X8_readClause_1_0 x1 M
theorem s_X8_readClause_1 {l : Launch} {E : Ev} {x1 : Int32} {M : Mm} {M' : Mm} (hE : Has shC (eH E)) (h : f_X8_readClause_1 x1 M = some M') : MetA l yX8_readClause cX8_readClause 5 none 7 E [.ref (eA E 1), .int x1] M none M' := by
  refine MetA.of (by decide +kernel) (Nat.le_of_ble_eq_true rfl) ?_
  intro p e s m below meth c C hr hnm
  exact G.sub [0, 1] rfl (gb_X8_readClause_1_0 hE C hr  h)
def bb_X8_readFirst_1_44 (k_44 : Int32 → Mm → Option (Int32 × Mm)) (x2 : Int32) (M : Mm) : Option (Int32 × Mm) := if (500 : Int32) ≤ x2 then (some (M.1 1 5, M)) else (if (M.1 1 3) ≤ (M.1 1 4) then (some (M.1 1 5, M)) else (if (M.1 1 5) = 0 then (bd (f_X8_readClause_1 x2 M) fun M_11 => bd (f_X8_skipBlanks_1 M_11) fun M_13 => ltv (x2 + (1 : Int32)) fun x2_14 => k_44 x2_14 M_13) else (some (M.1 1 5, M))))
set_option maxHeartbeats 4000000 in
set_option maxRecDepth 100000 in
theorem gb_X8_readFirst_1_44  {k_44 : Int32 → Mm → Option (Int32 × Mm)} {x2 : Int32} {M : Mm} {v : Int32} {M' : Mm} (hE : Has shC (eH E)) (C : Cx RX8 cX8_readFirst 3 p (rmD 8) s m args meth c E) (hr : meth.sig.returnType = (some .int)) (hk_44 : ∀ (x2 : Int32) (M : Mm), k_44 x2 M = some (v, M') → G p l e (rmD 8) s m args below meth c E 3 0 0 (QR below args s E 0 0 (some (.int v)) M') 44 [(0, .ref (eA E 1)), (2, .int x2)] [] M) (h : bb_X8_readFirst_1_44 k_44 x2 M = some (v, M')) : G p l e (rmD 8) s m args below meth c E 3 0 0 (QR below args s E 0 0 (some (.int v)) M') 44 [(0, .ref (eA E 1)), (2, .int x2)] [] M := by
  unfold bb_X8_readFirst_1_44 at h
  refine G.iload_n C 1 dX8_readFirst_44 rfl rfl ?_
  refine G.sipush (v := (500 : Int32)) C dX8_readFirst_45 (by decide) ?_
  refine G.icmp_ge (tgt := 84) C dX8_readFirst_48 (by decide) (fun hc => ?_) (fun hc => ?_)
  · have h := it_t h hc
    refine G.aload_n C 0 dX8_readFirst_84 rfl rfl ?_
    refine G.getI (k := 5) C k_X8 (sc_1 hE) rfl (by decide) tg_201 dX8_readFirst_85 ?_
    cases h
    exact G.iret C hr dX8_readFirst_88
  · have h := it_f h hc
    refine G.aload_n C 0 dX8_readFirst_51 rfl rfl ?_
    refine G.getI (k := 4) C k_X8 (sc_1 hE) rfl (by decide) tg_200 dX8_readFirst_52 ?_
    refine G.aload_n C 0 dX8_readFirst_55 rfl rfl ?_
    refine G.getI (k := 3) C k_X8 (sc_1 hE) rfl (by decide) tg_199 dX8_readFirst_56 ?_
    refine G.icmp_ge (tgt := 84) C dX8_readFirst_59 (by decide) (fun hc => ?_) (fun hc => ?_)
    · have h := it_t h hc
      refine G.aload_n C 0 dX8_readFirst_84 rfl rfl ?_
      refine G.getI (k := 5) C k_X8 (sc_1 hE) rfl (by decide) tg_201 dX8_readFirst_85 ?_
      cases h
      exact G.iret C hr dX8_readFirst_88
    · have h := it_f h hc
      refine G.aload_n C 0 dX8_readFirst_62 rfl rfl ?_
      refine G.getI (k := 5) C k_X8 (sc_1 hE) rfl (by decide) tg_201 dX8_readFirst_63 ?_
      refine G.if_ne (tgt := 84) C dX8_readFirst_66 (by decide) (fun hc => ?_) (fun hc => ?_)
      · have h := it_f h hc
        refine G.aload_n C 0 dX8_readFirst_84 rfl rfl ?_
        refine G.getI (k := 5) C k_X8 (sc_1 hE) rfl (by decide) tg_201 dX8_readFirst_85 ?_
        cases h
        exact G.iret C hr dX8_readFirst_88
      · have h := it_t h hc
        refine G.aload_n C 0 dX8_readFirst_69 rfl rfl ?_
        refine G.iload_n C 1 dX8_readFirst_70 rfl rfl ?_
        obtain ⟨M_11, hv_10, h⟩ := bd_ex h
        refine G.callV (rest := []) C (s_X8_readClause_1 hE  hv_10) ⟨tg_727, tg_91, ok_X8_readClause, Nat.le_of_ble_eq_true rfl, Nat.le_of_ble_eq_true rfl⟩ tg_724 tg_726 tg_9 (sc_1 hE) rfl rfl (Nat.le_of_ble_eq_true rfl) dX8_readFirst_71 ⟨Nat.le_refl 0, Nat.le_refl 0⟩ ?_
        refine G.aload_n C 0 dX8_readFirst_74 rfl rfl ?_
        obtain ⟨M_13, hv_12, h⟩ := bd_ex h
        refine G.callV (rest := []) C (s_X8_skipBlanks_1 hE  hv_12) ⟨tg_719, tg_91, ok_X8_skipBlanks, Nat.le_of_ble_eq_true rfl, Nat.le_of_ble_eq_true rfl⟩ tg_716 tg_718 tg_7 (sc_1 hE) rfl rfl (Nat.le_of_ble_eq_true rfl) dX8_readFirst_75 ⟨Nat.le_refl 0, Nat.le_refl 0⟩ ?_
        obtain ⟨x2_14, ex2_14, h⟩ := ltv_ex h
        refine G.iinc (L' := [(2, .int x2_14), (0, .ref (eA E 1))]) C 1 dX8_readFirst_78 rfl (ex2_14.trans rfl) (by decide) rfl ?_
        refine G.goto (tgt := 44) C dX8_readFirst_81 (by decide) ?_
        exact G.sub [1, 0] rfl (hk_44 _ _  h)
def b_X8_readFirst_1_44 : Nat → Int32 → Mm → Option (Int32 × Mm)
  | 0, _, _ => none
  | n + 1, x2, M => bb_X8_readFirst_1_44 (b_X8_readFirst_1_44 n) x2 M
set_option maxHeartbeats 4000000 in
theorem g_X8_readFirst_1_44  {n : Nat} {x2 : Int32} {M : Mm} {v : Int32} {M' : Mm} (hE : Has shC (eH E)) (C : Cx RX8 cX8_readFirst 3 p (rmD 8) s m args meth c E) (hr : meth.sig.returnType = (some .int)) (h : b_X8_readFirst_1_44 n x2 M = some (v, M')) : G p l e (rmD 8) s m args below meth c E 3 0 0 (QR below args s E 0 0 (some (.int v)) M') 44 [(0, .ref (eA E 1)), (2, .int x2)] [] M := by
  induction n generalizing x2 M with
  | zero => cases h
  | succ n ih => exact gb_X8_readFirst_1_44 hE C hr (fun _ _ => ih)  h
def bb_X8_readFirst_1_0 (x1 : Int32) (M : Mm) : Option (Int32 × Mm) := ltv (wI M 1 3 (if (500 : Int32) < x1 then (500 : Int32) else x1)) fun M_1 => ltv (wI M_1 1 2 (0 : Int32)) fun M_2 => ltv (wI M_2 1 4 (0 : Int32)) fun M_3 => ltv (wI M_3 1 5 (0 : Int32)) fun M_4 => ltv (wI M_4 1 6 (-1 : Int32)) fun M_5 => bd (f_X7_wipe_3 M_5) fun M_7 => bd (f_X8_skipBlanks_1 M_7) fun M_9 => b_X8_readFirst_1_44 FU (0 : Int32) M_9
set_option maxHeartbeats 4000000 in
set_option maxRecDepth 100000 in
theorem gb_X8_readFirst_1_0  {x1 : Int32} {M : Mm} {v : Int32} {M' : Mm} (hE : Has shC (eH E)) (C : Cx RX8 cX8_readFirst 3 p (rmD 8) s m args meth c E) (hr : meth.sig.returnType = (some .int)) (h : bb_X8_readFirst_1_0 x1 M = some (v, M')) : G p l e (rmD 8) s m args below meth c E 3 0 0 (QR below args s E 0 0 (some (.int v)) M') 0 [(0, .ref (eA E 1)), (1, .int x1)] [] M := by
  unfold bb_X8_readFirst_1_0 at h
  refine G.aload_n C 0 dX8_readFirst_0 rfl rfl ?_
  refine G.iload_n C 1 dX8_readFirst_1 rfl rfl ?_
  refine G.sipush (v := (500 : Int32)) C dX8_readFirst_2 (by decide) ?_
  refine G.mmin (rest := [.ref (eA E 1)]) C tg_714 tg_421 tg_100 tg_422 ⟨Nat.le_of_ble_eq_true rfl, Nat.le_of_ble_eq_true rfl⟩ (Nat.le_of_ble_eq_true rfl) ⟨Nat.le_refl 0, Nat.le_refl 0⟩ dX8_readFirst_5 ?_
  obtain ⟨M_1, eM_1, h⟩ := ltv_ex h
  refine G.putI (k := 3) C k_X8 (sc_1 hE) rfl (by decide) tg_199 rfl rfl dX8_readFirst_8 eM_1 ?_
  refine G.aload_n C 0 dX8_readFirst_11 rfl rfl ?_
  refine G.iconst (v := (0 : Int32)) C dX8_readFirst_12 (by decide) ?_
  obtain ⟨M_2, eM_2, h⟩ := ltv_ex h
  refine G.putI (k := 2) C k_X8 (sc_1 hE) rfl (by decide) tg_197 rfl rfl dX8_readFirst_13 eM_2 ?_
  refine G.aload_n C 0 dX8_readFirst_16 rfl rfl ?_
  refine G.iconst (v := (0 : Int32)) C dX8_readFirst_17 (by decide) ?_
  obtain ⟨M_3, eM_3, h⟩ := ltv_ex h
  refine G.putI (k := 4) C k_X8 (sc_1 hE) rfl (by decide) tg_200 rfl rfl dX8_readFirst_18 eM_3 ?_
  refine G.aload_n C 0 dX8_readFirst_21 rfl rfl ?_
  refine G.iconst (v := (0 : Int32)) C dX8_readFirst_22 (by decide) ?_
  obtain ⟨M_4, eM_4, h⟩ := ltv_ex h
  refine G.putI (k := 5) C k_X8 (sc_1 hE) rfl (by decide) tg_201 rfl rfl dX8_readFirst_23 eM_4 ?_
  refine G.aload_n C 0 dX8_readFirst_26 rfl rfl ?_
  refine G.iconst (v := (-1 : Int32)) C dX8_readFirst_27 (by decide) ?_
  obtain ⟨M_5, eM_5, h⟩ := ltv_ex h
  refine G.putI (k := 6) C k_X8 (sc_1 hE) rfl (by decide) tg_202 rfl rfl dX8_readFirst_28 eM_5 ?_
  refine G.aload_n C 0 dX8_readFirst_31 rfl rfl ?_
  refine G.getR (k := 1) C k_X8 (sc_1 hE) rfl (by decide) tg_195 dX8_readFirst_32 ?_
  obtain ⟨M_7, hv_6, h⟩ := bd_ex h
  refine G.callV (rest := []) C (s_X7_wipe_3 hE  hv_6) ⟨tg_404, tg_92, ok_X7_wipe, Nat.le_of_ble_eq_true rfl, Nat.le_of_ble_eq_true rfl⟩ tg_715 tg_402 tg_403 (sc_3 hE) rfl rfl (Nat.le_of_ble_eq_true rfl) dX8_readFirst_35 ⟨Nat.le_refl 0, Nat.le_refl 0⟩ ?_
  refine G.aload_n C 0 dX8_readFirst_38 rfl rfl ?_
  obtain ⟨M_9, hv_8, h⟩ := bd_ex h
  refine G.callV (rest := []) C (s_X8_skipBlanks_1 hE  hv_8) ⟨tg_719, tg_91, ok_X8_skipBlanks, Nat.le_of_ble_eq_true rfl, Nat.le_of_ble_eq_true rfl⟩ tg_716 tg_718 tg_7 (sc_1 hE) rfl rfl (Nat.le_of_ble_eq_true rfl) dX8_readFirst_39 ⟨Nat.le_refl 0, Nat.le_refl 0⟩ ?_
  refine G.iconst (v := (0 : Int32)) C dX8_readFirst_42 (by decide) ?_
  refine G.istore_n (L' := [(2, .int (0 : Int32)), (0, .ref (eA E 1)), (1, .int x1)]) C dX8_readFirst_43 rfl rfl (by decide) rfl ?_
  exact G.sub [1, 0] rfl (g_X8_readFirst_1_44 hE C hr  h)
def f_X8_readFirst_1 (x1 : Int32) (M : Mm) : Option (Int32 × Mm) := bb_X8_readFirst_1_0 x1 M
theorem s_X8_readFirst_1 {l : Launch} {E : Ev} {x1 : Int32} {M : Mm} {v : Int32} {M' : Mm} (hE : Has shC (eH E)) (h : f_X8_readFirst_1 x1 M = some (v, M')) : MetA l yX8_readFirst cX8_readFirst 3 (some .int) 8 E [.ref (eA E 1), .int x1] M (some (.int v)) M' := by
  refine MetA.of (by decide +kernel) (Nat.le_of_ble_eq_true rfl) ?_
  intro p e s m below meth c C hr hnm
  exact G.sub [0, 1] rfl (gb_X8_readFirst_1_0 hE C hr  h)
end
