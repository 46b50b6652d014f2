section
variable {p : Program} {l : Launch} {e : Env} {s : State} {m : MethodId} {args : Array Value} {below : List Frame} {meth : Method} {c : Code} {E : Ev}
def bb_J7_fill_53178_29_5 (k_5 : Int32 → Int32 → Int32 → Mm → Option Mm) (x1 : Int32) (x2 : Int32) (x3 : Int32) (M : Mm) : Option Mm := if x3 ≤ x2 then (some M) else (gd (inb x2 130) (ltv (wI M 29 (ix x2) x1) fun M_2 => ltv (x2 + (1 : Int32)) fun x2_3 => k_5 x1 x2_3 x3 M_2))
set_option maxHeartbeats 4000000 in
set_option maxRecDepth 100000 in
theorem gb_J7_fill_53178_29_5  {k_5 : Int32 → Int32 → Int32 → Mm → Option Mm} {x1 : Int32} {x2 : Int32} {x3 : Int32} {M : Mm} {M' : Mm} (hE : Has shC (eH E)) (C : Cx RJ7 cJ7_fill_53178 4 p (rmD 1) s m args meth c E) (hr : meth.sig.returnType = none) (hk_5 : ∀ (x1 : Int32) (x2 : Int32) (x3 : Int32) (M : Mm), k_5 x1 x2 x3 M = some M' → G p l e (rmD 1) s m args below meth c E 4 0 0 (QR below args s E 0 0 none M') 5 [(0, .ref (eA E 29)), (1, .int x1), (2, .int x2), (3, .int x3)] [] M) (h : bb_J7_fill_53178_29_5 k_5 x1 x2 x3 M = some M') : G p l e (rmD 1) s m args below meth c E 4 0 0 (QR below args s E 0 0 none M') 5 [(0, .ref (eA E 29)), (1, .int x1), (2, .int x2), (3, .int x3)] [] M := by
  unfold bb_J7_fill_53178_29_5 at h
  refine G.iload_n C 2 dJ7_fill_53178_5 rfl rfl ?_
  refine G.iload_n C 3 dJ7_fill_53178_6 rfl rfl ?_
  refine G.icmp_ge (tgt := 20) C dJ7_fill_53178_7 (by decide) (fun hc => ?_) (fun hc => ?_)
  · have h := it_t h hc
    cases h
    exact G.vret C hr dJ7_fill_53178_20
  · have h := it_f h hc
    refine G.aload_n C 0 dJ7_fill_53178_10 rfl rfl ?_
    refine G.iload_n C 2 dJ7_fill_53178_11 rfl rfl ?_
    refine G.iload_n C 1 dJ7_fill_53178_12 rfl rfl ?_
    obtain ⟨hg_1, h⟩ := gd_ex h
    obtain ⟨M_2, eM_2, h⟩ := ltv_ex h
    refine G.sI (j := (ix x2)) C (sc_29 hE) hg_1 rfl dJ7_fill_53178_13 eM_2 ?_
    obtain ⟨x2_3, ex2_3, h⟩ := ltv_ex h
    refine G.iinc (L' := [(2, .int x2_3), (0, .ref (eA E 29)), (1, .int x1), (3, .int x3)]) C 2 dJ7_fill_53178_14 rfl (ex2_3.trans rfl) (by decide) rfl ?_
    refine G.goto (tgt := 5) C dJ7_fill_53178_17 (by decide) ?_
    exact G.sub [1, 2, 0, 3] rfl (hk_5 _ _ _ _  h)
def b_J7_fill_53178_29_5 : Nat → Int32 → Int32 → Int32 → Mm → Option Mm
  | 0, _, _, _, _ => none
  | n + 1, x1, x2, x3, M => bb_J7_fill_53178_29_5 (b_J7_fill_53178_29_5 n) x1 x2 x3 M
set_option maxHeartbeats 4000000 in
theorem g_J7_fill_53178_29_5  {n : Nat} {x1 : Int32} {x2 : Int32} {x3 : Int32} {M : Mm} {M' : Mm} (hE : Has shC (eH E)) (C : Cx RJ7 cJ7_fill_53178 4 p (rmD 1) s m args meth c E) (hr : meth.sig.returnType = none) (h : b_J7_fill_53178_29_5 n x1 x2 x3 M = some M') : G p l e (rmD 1) s m args below meth c E 4 0 0 (QR below args s E 0 0 none M') 5 [(0, .ref (eA E 29)), (1, .int x1), (2, .int x2), (3, .int x3)] [] M := by
  induction n generalizing x1 x2 x3 M with
  | zero => cases h
  | succ n ih => exact gb_J7_fill_53178_29_5 hE C hr (fun _ _ _ _ => ih)  h
def bb_J7_fill_53178_29_0 (x1 : Int32) (M : Mm) : Option Mm := b_J7_fill_53178_29_5 FU x1 (0 : Int32) (130 : Int32) M
set_option maxHeartbeats 4000000 in
set_option maxRecDepth 100000 in
theorem gb_J7_fill_53178_29_0  {x1 : Int32} {M : Mm} {M' : Mm} (hE : Has shC (eH E)) (C : Cx RJ7 cJ7_fill_53178 4 p (rmD 1) s m args meth c E) (hr : meth.sig.returnType = none) (h : bb_J7_fill_53178_29_0 x1 M = some M') : G p l e (rmD 1) s m args below meth c E 4 0 0 (QR below args s E 0 0 none M') 0 [(0, .ref (eA E 29)), (1, .int x1)] [] M := by
  unfold bb_J7_fill_53178_29_0 at h
  refine G.iconst (v := (0 : Int32)) C dJ7_fill_53178_0 (by decide) ?_
  refine G.istore_n (L' := [(2, .int (0 : Int32)), (0, .ref (eA E 29)), (1, .int x1)]) C dJ7_fill_53178_1 rfl rfl (by decide) rfl ?_
  refine G.aload_n C 1 dJ7_fill_53178_2 rfl rfl ?_
  refine G.alen (v := (130 : Int32)) C (sc_29 hE) rfl (by decide) dJ7_fill_53178_3 ?_
  refine G.istore_n (L' := [(3, .int (130 : Int32)), (2, .int (0 : Int32)), (0, .ref (eA E 29)), (1, .int x1)]) C dJ7_fill_53178_4 rfl rfl (by decide) rfl ?_
  exact G.sub [2, 3, 1, 0] rfl (g_J7_fill_53178_29_5 hE C hr  h)
def f_J7_fill_53178_29 (x1 : Int32) (M : Mm) : Option Mm := bb_J7_fill_53178_29_0 x1 M
theorem s_J7_fill_53178_29 {l : Launch} {E : Ev} {x1 : Int32} {M : Mm} {M' : Mm} (hE : Has shC (eH E)) (h : f_J7_fill_53178_29 x1 M = some M') : MetA l yJ7_fill_53178 cJ7_fill_53178 4 none 1 E [.ref (eA E 29), .int x1] M none M' := by
  refine MetA.of (by decide +kernel) (Nat.le_of_ble_eq_true rfl) ?_
  intro p e s m below meth c C hr hnm
  exact G.sub [0, 1] rfl (gb_J7_fill_53178_29_0 hE C hr  h)
def bb_X4_turnsInto_25_29 (k_29 : Int32 → Int64 → Int64 → Int32 → Mm → Option Mm) (x3 : Int32) (x4 : Int64) (x6 : Int64) (x8 : Int32) (M : Mm) : Option Mm := if (4 : Int32) ≤ x8 then (some M) else (bd (f_X4_toCorner x4) fun v_4 => gd (inb (((8 : Int32) * x3) + x8) 128) (ltv (wJ M 25 (ix (((8 : Int32) * x3) + x8)) v_4) fun M_6 => bd (f_X4_toCorner x6) fun v_8 => gd (inb ((((8 : Int32) * x3) + (4 : Int32)) + x8) 128) (ltv (wJ M_6 25 (ix ((((8 : Int32) * x3) + (4 : Int32)) + x8)) v_8) fun M_10 => bd (f_X4_quarterTurned x4) fun v_12 => bd (f_X4_quarterTurned x6) fun v_14 => ltv (x8 + (1 : Int32)) fun x8_15 => k_29 x3 v_12 v_14 x8_15 M_10)))
set_option maxHeartbeats 4000000 in
set_option maxRecDepth 100000 in
theorem gb_X4_turnsInto_25_29  {k_29 : Int32 → Int64 → Int64 → Int32 → Mm → Option Mm} {x3 : Int32} {x4 : Int64} {x6 : Int64} {x8 : Int32} {M : Mm} {M' : Mm} (hE : Has shC (eH E)) (C : Cx RX4 cX4_turnsInto 9 p (rmD 3) s m args meth c E) (hr : meth.sig.returnType = none) (hk_29 : ∀ (x3 : Int32) (x4 : Int64) (x6 : Int64) (x8 : Int32) (M : Mm), k_29 x3 x4 x6 x8 M = some M' → G p l e (rmD 3) s m args below meth c E 9 0 0 (QR below args s E 0 0 none M') 29 [(2, .ref (eA E 25)), (3, .int x3), (4, .long x4), (6, .long x6), (8, .int x8)] [] M) (h : bb_X4_turnsInto_25_29 k_29 x3 x4 x6 x8 M = some M') : G p l e (rmD 3) s m args below meth c E 9 0 0 (QR below args s E 0 0 none M') 29 [(2, .ref (eA E 25)), (3, .int x3), (4, .long x4), (6, .long x6), (8, .int x8)] [] M := by
  unfold bb_X4_turnsInto_25_29 at h
  refine G.iload C 4 dX4_turnsInto_29 rfl ?_
  refine G.iconst (v := (4 : Int32)) C dX4_turnsInto_31 (by decide) ?_
  refine G.icmp_ge (tgt := 85) C dX4_turnsInto_32 (by decide) (fun hc => ?_) (fun hc => ?_)
  · have h := it_t h hc
    cases h
    exact G.vret C hr dX4_turnsInto_85
  · have h := it_f h hc
    refine G.aload_n C 0 dX4_turnsInto_35 rfl rfl ?_
    refine G.bipush (v := (8 : Int32)) C dX4_turnsInto_36 (by decide) ?_
    refine G.iload_n C 1 dX4_turnsInto_38 rfl rfl ?_
    refine G.imul C dX4_turnsInto_39 ?_
    refine G.iload C 4 dX4_turnsInto_40 rfl ?_
    refine G.iadd C dX4_turnsInto_42 ?_
    refine G.lload C 2 dX4_turnsInto_43 rfl ?_
    obtain ⟨v_4, hv_3, h⟩ := bd_ex h
    refine G.callS (rest := [.int (((8 : Int32) * x3) + x8), .ref (eA E 25)]) C (s_X4_toCorner  hv_3) ⟨tg_434, tg_101, ok_X4_toCorner, Nat.le_of_ble_eq_true rfl, Nat.le_of_ble_eq_true rfl⟩ tg_432 tg_433 rfl (Nat.le_of_ble_eq_true rfl) dX4_turnsInto_45 ⟨Nat.le_refl 0, Nat.le_refl 0⟩ ?_
    obtain ⟨hg_5, h⟩ := gd_ex h
    obtain ⟨M_6, eM_6, h⟩ := ltv_ex h
    refine G.sJ (j := (ix (((8 : Int32) * x3) + x8))) C (sc_25 hE) hg_5 rfl dX4_turnsInto_48 eM_6 ?_
    refine G.aload_n C 0 dX4_turnsInto_49 rfl rfl ?_
    refine G.bipush (v := (8 : Int32)) C dX4_turnsInto_50 (by decide) ?_
    refine G.iload_n C 1 dX4_turnsInto_52 rfl rfl ?_
    refine G.imul C dX4_turnsInto_53 ?_
    refine G.iconst (v := (4 : Int32)) C dX4_turnsInto_54 (by decide) ?_
    refine G.iadd C dX4_turnsInto_55 ?_
    refine G.iload C 4 dX4_turnsInto_56 rfl ?_
    refine G.iadd C dX4_turnsInto_58 ?_
    refine G.lload C 3 dX4_turnsInto_59 rfl ?_
    obtain ⟨v_8, hv_7, h⟩ := bd_ex h
    refine G.callS (rest := [.int ((((8 : Int32) * x3) + (4 : Int32)) + x8), .ref (eA E 25)]) C (s_X4_toCorner  hv_7) ⟨tg_434, tg_101, ok_X4_toCorner, Nat.le_of_ble_eq_true rfl, Nat.le_of_ble_eq_true rfl⟩ tg_432 tg_433 rfl (Nat.le_of_ble_eq_true rfl) dX4_turnsInto_61 ⟨Nat.le_refl 0, Nat.le_refl 0⟩ ?_
    obtain ⟨hg_9, h⟩ := gd_ex h
    obtain ⟨M_10, eM_10, h⟩ := ltv_ex h
    refine G.sJ (j := (ix ((((8 : Int32) * x3) + (4 : Int32)) + x8))) C (sc_25 hE) hg_9 rfl dX4_turnsInto_64 eM_10 ?_
    refine G.lload C 2 dX4_turnsInto_65 rfl ?_
    obtain ⟨v_12, hv_11, h⟩ := bd_ex h
    refine G.callS (rest := []) C (s_X4_quarterTurned  hv_11) ⟨tg_439, tg_101, ok_X4_quarterTurned, Nat.le_of_ble_eq_true rfl, Nat.le_of_ble_eq_true rfl⟩ tg_437 tg_438 rfl (Nat.le_of_ble_eq_true rfl) dX4_turnsInto_67 ⟨Nat.le_refl 0, Nat.le_refl 0⟩ ?_
    refine G.lstore (L' := [(4, .long v_12), (2, .ref (eA E 25)), (3, .int x3), (6, .long x6), (8, .int x8)]) C dX4_turnsInto_70 rfl (by decide) rfl ?_
    refine G.lload C 3 dX4_turnsInto_72 rfl ?_
    obtain ⟨v_14, hv_13, h⟩ := bd_ex h
    refine G.callS (rest := []) C (s_X4_quarterTurned  hv_13) ⟨tg_439, tg_101, ok_X4_quarterTurned, Nat.le_of_ble_eq_true rfl, Nat.le_of_ble_eq_true rfl⟩ tg_437 tg_438 rfl (Nat.le_of_ble_eq_true rfl) dX4_turnsInto_74 ⟨Nat.le_refl 0, Nat.le_refl 0⟩ ?_
    refine G.lstore (L' := [(6, .long v_14), (4, .long v_12), (2, .ref (eA E 25)), (3, .int x3), (8, .int x8)]) C dX4_turnsInto_77 rfl (by decide) rfl ?_
    obtain ⟨x8_15, ex8_15, h⟩ := ltv_ex h
    refine G.iinc (L' := [(8, .int x8_15), (6, .long v_14), (4, .long v_12), (2, .ref (eA E 25)), (3, .int x3)]) C 4 dX4_turnsInto_79 rfl (ex8_15.trans rfl) (by decide) rfl ?_
    refine G.goto (tgt := 29) C dX4_turnsInto_82 (by decide) ?_
    exact G.sub [3, 4, 2, 1, 0] rfl (hk_29 _ _ _ _ _  h)
def b_X4_turnsInto_25_29 : Nat → Int32 → Int64 → Int64 → Int32 → Mm → Option Mm
  | 0, _, _, _, _, _ => none
  | n + 1, x3, x4, x6, x8, M => bb_X4_turnsInto_25_29 (b_X4_turnsInto_25_29 n) x3 x4 x6 x8 M
set_option maxHeartbeats 4000000 in
theorem g_X4_turnsInto_25_29  {n : Nat} {x3 : Int32} {x4 : Int64} {x6 : Int64} {x8 : Int32} {M : Mm} {M' : Mm} (hE : Has shC (eH E)) (C : Cx RX4 cX4_turnsInto 9 p (rmD 3) s m args meth c E) (hr : meth.sig.returnType = none) (h : b_X4_turnsInto_25_29 n x3 x4 x6 x8 M = some M') : G p l e (rmD 3) s m args below meth c E 9 0 0 (QR below args s E 0 0 none M') 29 [(2, .ref (eA E 25)), (3, .int x3), (4, .long x4), (6, .long x6), (8, .int x8)] [] M := by
  induction n generalizing x3 x4 x6 x8 M with
  | zero => cases h
  | succ n ih => exact gb_X4_turnsInto_25_29 hE C hr (fun _ _ _ _ _ => ih)  h
def bb_X4_turnsInto_25_0 (x0 : Int64) (x3 : Int32) (M : Mm) : Option Mm := if x3 < 0 then (some M) else (if (((8 : Int32) * x3) + (8 : Int32)) ≤ (128 : Int32) then (bd (f_X4_mirrored x0) fun v_2 => b_X4_turnsInto_25_29 FU x3 x0 v_2 (0 : Int32) M) else (some M))
set_option maxHeartbeats 4000000 in
set_option maxRecDepth 100000 in
theorem gb_X4_turnsInto_25_0  {x0 : Int64} {x3 : Int32} {M : Mm} {M' : Mm} (hE : Has shC (eH E)) (C : Cx RX4 cX4_turnsInto 9 p (rmD 3) s m args meth c E) (hr : meth.sig.returnType = none) (h : bb_X4_turnsInto_25_0 x0 x3 M = some M') : G p l e (rmD 3) s m args below meth c E 9 0 0 (QR below args s E 0 0 none M') 0 [(0, .long x0), (2, .ref (eA E 25)), (3, .int x3)] [] M := by
  unfold bb_X4_turnsInto_25_0 at h
  refine G.iload_n C 2 dX4_turnsInto_0 rfl rfl ?_
  refine G.if_lt (tgt := 16) C dX4_turnsInto_1 (by decide) (fun hc => ?_) (fun hc => ?_)
  · have h := it_t h hc
    cases h
    exact G.vret C hr dX4_turnsInto_16
  · have h := it_f h hc
    refine G.bipush (v := (8 : Int32)) C dX4_turnsInto_4 (by decide) ?_
    refine G.iload_n C 2 dX4_turnsInto_6 rfl rfl ?_
    refine G.imul C dX4_turnsInto_7 ?_
    refine G.bipush (v := (8 : Int32)) C dX4_turnsInto_8 (by decide) ?_
    refine G.iadd C dX4_turnsInto_10 ?_
    refine G.aload_n C 1 dX4_turnsInto_11 rfl rfl ?_
    refine G.alen (v := (128 : Int32)) C (sc_25 hE) rfl (by decide) dX4_turnsInto_12 ?_
    refine G.icmp_le (tgt := 17) C dX4_turnsInto_13 (by decide) (fun hc => ?_) (fun hc => ?_)
    · have h := it_t h hc
      refine G.lload_n C 0 dX4_turnsInto_17 rfl rfl ?_
      refine G.lstore (L' := [(4, .long x0), (0, .long x0), (2, .ref (eA E 25)), (3, .int x3)]) C dX4_turnsInto_18 rfl (by decide) rfl ?_
      refine G.lload_n C 1 dX4_turnsInto_20 rfl rfl ?_
      obtain ⟨v_2, hv_1, h⟩ := bd_ex h
      refine G.callS (rest := []) C (s_X4_mirrored  hv_1) ⟨tg_428, tg_101, ok_X4_mirrored, Nat.le_of_ble_eq_true rfl, Nat.le_of_ble_eq_true rfl⟩ tg_426 tg_427 rfl (Nat.le_of_ble_eq_true rfl) dX4_turnsInto_21 ⟨Nat.le_refl 0, Nat.le_refl 0⟩ ?_
      refine G.lstore (L' := [(6, .long v_2), (4, .long x0), (0, .long x0), (2, .ref (eA E 25)), (3, .int x3)]) C dX4_turnsInto_24 rfl (by decide) rfl ?_
      refine G.iconst (v := (0 : Int32)) C dX4_turnsInto_26 (by decide) ?_
      refine G.istore (L' := [(8, .int (0 : Int32)), (6, .long v_2), (4, .long x0), (0, .long x0), (2, .ref (eA E 25)), (3, .int x3)]) C dX4_turnsInto_27 rfl (by decide) rfl ?_
      exact G.sub [4, 5, 2, 1, 0] rfl (g_X4_turnsInto_25_29 hE C hr  h)
    · have h := it_f h hc
      cases h
      exact G.vret C hr dX4_turnsInto_16
def f_X4_turnsInto_25 (x0 : Int64) (x3 : Int32) (M : Mm) : Option Mm := bb_X4_turnsInto_25_0 x0 x3 M
theorem s_X4_turnsInto_25 {l : Launch} {E : Ev} {x0 : Int64} {x3 : Int32} {M : Mm} {M' : Mm} (hE : Has shC (eH E)) (h : f_X4_turnsInto_25 x0 x3 M = some M') : MetA l yX4_turnsInto cX4_turnsInto 9 none 3 E [.long x0, .ref (eA E 25), .int x3] M none M' := by
  refine MetA.of (by decide +kernel) (Nat.le_of_ble_eq_true rfl) ?_
  intro p e s m below meth c C hr hnm
  exact G.sub [0, 1, 2] rfl (gb_X4_turnsInto_25_0 hE C hr  h)
def bb_X1_lay_24_11_15 (k_15 : Int32 → Mm → Option Mm) (x2 : Int32) (M : Mm) : Option Mm := if (M.1 24 5) ≤ x2 then (bd (f_J7_fill_53178_29 (-2 : Int32) M) fun M_3 => some M_3) else (gd (inb x2 16) (bd (f_X4_turnsInto_25 (M.2 17 (ix x2)) x2 M) fun M_6 => ltv (x2 + (1 : Int32)) fun x2_7 => k_15 x2_7 M_6))
set_option maxHeartbeats 4000000 in
set_option maxRecDepth 100000 in
theorem gb_X1_lay_24_11_15  {k_15 : Int32 → Mm → Option Mm} {x2 : Int32} {M : Mm} {M' : Mm} (hE : Has shC (eH E)) (C : Cx RX1 cX1_lay 3 p (rmD 4) s m args meth c E) (hr : meth.sig.returnType = none) (hk_15 : ∀ (x2 : Int32) (M : Mm), k_15 x2 M = some M' → G p l e (rmD 4) s m args below meth c E 3 0 0 (QR below args s E 0 0 none M') 15 [(0, .ref (eA E 24)), (1, .ref (eA E 11)), (2, .int x2)] [] M) (h : bb_X1_lay_24_11_15 k_15 x2 M = some M') : G p l e (rmD 4) s m args below meth c E 3 0 0 (QR below args s E 0 0 none M') 15 [(0, .ref (eA E 24)), (1, .ref (eA E 11)), (2, .int x2)] [] M := by
  unfold bb_X1_lay_24_11_15 at h
  refine G.iload_n C 2 dX1_lay_15 rfl rfl ?_
  refine G.aload_n C 0 dX1_lay_16 rfl rfl ?_
  refine G.getI (k := 5) C k_X1 (sc_24 hE) rfl (by decide) tg_251 dX1_lay_17 ?_
  refine G.icmp_ge (tgt := 43) C dX1_lay_20 (by decide) (fun hc => ?_) (fun hc => ?_)
  · have h := it_t h hc
    refine G.aload_n C 0 dX1_lay_43 rfl rfl ?_
    refine G.getR (k := 4) C k_X1 (sc_24 hE) rfl (by decide) tg_250 dX1_lay_44 ?_
    refine G.bipush (v := (-2 : Int32)) C dX1_lay_47 (by decide) ?_
    obtain ⟨M_3, hv_2, h⟩ := bd_ex h
    refine G.callS (rest := []) C (s_J7_fill_53178_29 hE  hv_2) ⟨tg_411, tg_99, ok_J7_fill_53178, Nat.le_of_ble_eq_true rfl, Nat.le_of_ble_eq_true rfl⟩ tg_446 tg_410 rfl (Nat.le_of_ble_eq_true rfl) dX1_lay_49 ⟨Nat.le_refl 0, Nat.le_refl 0⟩ ?_
    cases h
    exact G.vret C hr dX1_lay_52
  · have h := it_f h hc
    refine G.aload_n C 1 dX1_lay_23 rfl rfl ?_
    refine G.getRN (k := 5) C k_X7 (sc_11 hE) rfl (by decide) tw_149 dX1_lay_24 ?_
    refine G.iload_n C 2 dX1_lay_27 rfl rfl ?_
    obtain ⟨hg_4, h⟩ := gd_ex h
    refine G.aJ (j := ix x2) C (sc_17 hE) hg_4 rfl dX1_lay_28 ?_
    refine G.aload_n C 0 dX1_lay_29 rfl rfl ?_
    refine G.getR (k := 0) C k_X1 (sc_24 hE) rfl (by decide) tg_246 dX1_lay_30 ?_
    refine G.iload_n C 2 dX1_lay_33 rfl rfl ?_
    obtain ⟨M_6, hv_5, h⟩ := bd_ex h
    refine G.callS (rest := []) C (s_X4_turnsInto_25 hE  hv_5) ⟨tg_425, tg_101, ok_X4_turnsInto, Nat.le_of_ble_eq_true rfl, Nat.le_of_ble_eq_true rfl⟩ tg_423 tg_424 rfl (Nat.le_of_ble_eq_true rfl) dX1_lay_34 ⟨Nat.le_refl 0, Nat.le_refl 0⟩ ?_
    obtain ⟨x2_7, ex2_7, h⟩ := ltv_ex h
    refine G.iinc (L' := [(2, .int x2_7), (0, .ref (eA E 24)), (1, .ref (eA E 11))]) C 2 dX1_lay_37 rfl (ex2_7.trans rfl) (by decide) rfl ?_
    refine G.goto (tgt := 15) C dX1_lay_40 (by decide) ?_
    exact G.sub [1, 2, 0] rfl (hk_15 _ _  h)
def b_X1_lay_24_11_15 : Nat → Int32 → Mm → Option Mm
  | 0, _, _ => none
  | n + 1, x2, M => bb_X1_lay_24_11_15 (b_X1_lay_24_11_15 n) x2 M
set_option maxHeartbeats 4000000 in
theorem g_X1_lay_24_11_15  {n : Nat} {x2 : Int32} {M : Mm} {M' : Mm} (hE : Has shC (eH E)) (C : Cx RX1 cX1_lay 3 p (rmD 4) s m args meth c E) (hr : meth.sig.returnType = none) (h : b_X1_lay_24_11_15 n x2 M = some M') : G p l e (rmD 4) s m args below meth c E 3 0 0 (QR below args s E 0 0 none M') 15 [(0, .ref (eA E 24)), (1, .ref (eA E 11)), (2, .int x2)] [] M := by
  induction n generalizing x2 M with
  | zero => cases h
  | succ n ih => exact gb_X1_lay_24_11_15 hE C hr (fun _ _ => ih)  h
def bb_X1_lay_24_11_0  (M : Mm) : Option Mm := ltv (wI M 24 5 (if (16 : Int32) < (M.1 11 9) then (16 : Int32) else (M.1 11 9))) fun M_1 => b_X1_lay_24_11_15 FU (0 : Int32) M_1
set_option maxHeartbeats 4000000 in
set_option maxRecDepth 100000 in
theorem gb_X1_lay_24_11_0   {M : Mm} {M' : Mm} (hE : Has shC (eH E)) (C : Cx RX1 cX1_lay 3 p (rmD 4) s m args meth c E) (hr : meth.sig.returnType = none) (h : bb_X1_lay_24_11_0 M = some M') : G p l e (rmD 4) s m args below meth c E 3 0 0 (QR below args s E 0 0 none M') 0 [(0, .ref (eA E 24)), (1, .ref (eA E 11))] [] M := by
  unfold bb_X1_lay_24_11_0 at h
  refine G.aload_n C 0 dX1_lay_0 rfl rfl ?_
  refine G.aload_n C 1 dX1_lay_1 rfl rfl ?_
  refine G.getIN (k := 9) C k_X7 (sc_11 hE) rfl (by decide) tw_166 dX1_lay_2 ?_
  refine G.bipush (v := (16 : Int32)) C dX1_lay_5 (by decide) ?_
  refine G.mmin (rest := [.ref (eA E 24)]) C tg_420 tg_421 tg_100 tg_422 ⟨Nat.le_of_ble_eq_true rfl, Nat.le_of_ble_eq_true rfl⟩ (Nat.le_of_ble_eq_true rfl) ⟨Nat.le_refl 0, Nat.le_refl 0⟩ dX1_lay_7 ?_
  obtain ⟨M_1, eM_1, h⟩ := ltv_ex h
  refine G.putI (k := 5) C k_X1 (sc_24 hE) rfl (by decide) tg_251 rfl rfl dX1_lay_10 eM_1 ?_
  refine G.iconst (v := (0 : Int32)) C dX1_lay_13 (by decide) ?_
  refine G.istore_n (L' := [(2, .int (0 : Int32)), (0, .ref (eA E 24)), (1, .ref (eA E 11))]) C dX1_lay_14 rfl rfl (by decide) rfl ?_
  exact G.sub [1, 2, 0] rfl (g_X1_lay_24_11_15 hE C hr  h)
def f_X1_lay_24_11  (M : Mm) : Option Mm := bb_X1_lay_24_11_0 M
theorem s_X1_lay_24_11 {l : Launch} {E : Ev}  {M : Mm} {M' : Mm} (hE : Has shC (eH E)) (h : f_X1_lay_24_11 M = some M') : MetA l yX1_lay cX1_lay 3 none 4 E [.ref (eA E 24), .ref (eA E 11)] M none M' := by
  refine MetA.of (by decide +kernel) (Nat.le_of_ble_eq_true rfl) ?_
  intro p e s m below meth c C hr hnm
  exact G.sub [0, 1] rfl (gb_X1_lay_24_11_0 hE C hr  h)
def bb_J13_bitCount_95d88_0 (x0 : Int64) : Option Int32 := ltv (x0 - ((ushL x0 (1 : Int32)) &&& (6148914691236517205 : Int64))) fun x0_1 => ltv ((x0_1 &&& (3689348814741910323 : Int64)) + ((ushL x0_1 (2 : Int32)) &&& (3689348814741910323 : Int64))) fun x0_2 => ltv ((x0_2 + (ushL x0_2 (4 : Int32))) &&& (1085102592571150095 : Int64)) fun x0_3 => ltv (x0_3 + (ushL x0_3 (8 : Int32))) fun x0_4 => ltv (x0_4 + (ushL x0_4 (16 : Int32))) fun x0_5 => ltv (x0_5 + (ushL x0_5 (32 : Int32))) fun x0_6 => some ((x0_6.toInt32) &&& (127 : Int32))
set_option maxHeartbeats 4000000 in
set_option maxRecDepth 100000 in
theorem gb_J13_bitCount_95d88_0 {M : Mm}  {x0 : Int64} {v : Int32} (C : Cx RJ13 cJ13_bitCount_95d88 2 p (rmD 1) s m args meth c E) (hr : meth.sig.returnType = (some .int)) (h : bb_J13_bitCount_95d88_0 x0 = some v) : G p l e (rmD 1) s m args below meth c E 2 0 0 (QR below args s E 0 0 (some (.int v)) M) 0 [(0, .long x0)] [] M := by
  unfold bb_J13_bitCount_95d88_0 at h
  refine G.lload_n C 0 dJ13_bitCount_95d88_0 rfl rfl ?_
  refine G.lload_n C 0 dJ13_bitCount_95d88_1 rfl rfl ?_
  refine G.iconst (v := (1 : Int32)) C dJ13_bitCount_95d88_2 (by decide) ?_
  refine G.lushr (v := ushL x0 (1 : Int32)) C dJ13_bitCount_95d88_3 rfl ?_
  refine G.ldc2 C tg_458 dJ13_bitCount_95d88_4 ?_
  refine G.land C dJ13_bitCount_95d88_7 ?_
  refine G.lsub C dJ13_bitCount_95d88_8 ?_
  obtain ⟨x0_1, ex0_1, h⟩ := ltv_ex h
  refine G.lstore_n (L' := [(0, .long x0_1)]) C dJ13_bitCount_95d88_9 rfl ex0_1 (by decide) rfl ?_
  refine G.lload_n C 0 dJ13_bitCount_95d88_10 rfl rfl ?_
  refine G.ldc2 C tg_459 dJ13_bitCount_95d88_11 ?_
  refine G.land C dJ13_bitCount_95d88_14 ?_
  refine G.lload_n C 0 dJ13_bitCount_95d88_15 rfl rfl ?_
  refine G.iconst (v := (2 : Int32)) C dJ13_bitCount_95d88_16 (by decide) ?_
  refine G.lushr (v := ushL x0_1 (2 : Int32)) C dJ13_bitCount_95d88_17 rfl ?_
  refine G.ldc2 C tg_459 dJ13_bitCount_95d88_18 ?_
  refine G.land C dJ13_bitCount_95d88_21 ?_
  refine G.ladd C dJ13_bitCount_95d88_22 ?_
  obtain ⟨x0_2, ex0_2, h⟩ := ltv_ex h
  refine G.lstore_n (L' := [(0, .long x0_2)]) C dJ13_bitCount_95d88_23 rfl ex0_2 (by decide) rfl ?_
  refine G.lload_n C 0 dJ13_bitCount_95d88_24 rfl rfl ?_
  refine G.lload_n C 0 dJ13_bitCount_95d88_25 rfl rfl ?_
  refine G.iconst (v := (4 : Int32)) C dJ13_bitCount_95d88_26 (by decide) ?_
  refine G.lushr (v := ushL x0_2 (4 : Int32)) C dJ13_bitCount_95d88_27 rfl ?_
  refine G.ladd C dJ13_bitCount_95d88_28 ?_
  refine G.ldc2 C tg_460 dJ13_bitCount_95d88_29 ?_
  refine G.land C dJ13_bitCount_95d88_32 ?_
  obtain ⟨x0_3, ex0_3, h⟩ := ltv_ex h
  refine G.lstore_n (L' := [(0, .long x0_3)]) C dJ13_bitCount_95d88_33 rfl ex0_3 (by decide) rfl ?_
  refine G.lload_n C 0 dJ13_bitCount_95d88_34 rfl rfl ?_
  refine G.lload_n C 0 dJ13_bitCount_95d88_35 rfl rfl ?_
  refine G.bipush (v := (8 : Int32)) C dJ13_bitCount_95d88_36 (by decide) ?_
  refine G.lushr (v := ushL x0_3 (8 : Int32)) C dJ13_bitCount_95d88_38 rfl ?_
  refine G.ladd C dJ13_bitCount_95d88_39 ?_
  obtain ⟨x0_4, ex0_4, h⟩ := ltv_ex h
  refine G.lstore_n (L' := [(0, .long x0_4)]) C dJ13_bitCount_95d88_40 rfl ex0_4 (by decide) rfl ?_
  refine G.lload_n C 0 dJ13_bitCount_95d88_41 rfl rfl ?_
  refine G.lload_n C 0 dJ13_bitCount_95d88_42 rfl rfl ?_
  refine G.bipush (v := (16 : Int32)) C dJ13_bitCount_95d88_43 (by decide) ?_
  refine G.lushr (v := ushL x0_4 (16 : Int32)) C dJ13_bitCount_95d88_45 rfl ?_
  refine G.ladd C dJ13_bitCount_95d88_46 ?_
  obtain ⟨x0_5, ex0_5, h⟩ := ltv_ex h
  refine G.lstore_n (L' := [(0, .long x0_5)]) C dJ13_bitCount_95d88_47 rfl ex0_5 (by decide) rfl ?_
  refine G.lload_n C 0 dJ13_bitCount_95d88_48 rfl rfl ?_
  refine G.lload_n C 0 dJ13_bitCount_95d88_49 rfl rfl ?_
  refine G.bipush (v := (32 : Int32)) C dJ13_bitCount_95d88_50 (by decide) ?_
  refine G.lushr (v := ushL x0_5 (32 : Int32)) C dJ13_bitCount_95d88_52 rfl ?_
  refine G.ladd C dJ13_bitCount_95d88_53 ?_
  obtain ⟨x0_6, ex0_6, h⟩ := ltv_ex h
  refine G.lstore_n (L' := [(0, .long x0_6)]) C dJ13_bitCount_95d88_54 rfl ex0_6 (by decide) rfl ?_
  refine G.lload_n C 0 dJ13_bitCount_95d88_55 rfl rfl ?_
  refine G.l2i (v := x0_6.toInt32) C dJ13_bitCount_95d88_56 rfl ?_
  refine G.bipush (v := (127 : Int32)) C dJ13_bitCount_95d88_57 (by decide) ?_
  refine G.iand C dJ13_bitCount_95d88_59 ?_
  cases h
  exact G.iret C hr dJ13_bitCount_95d88_60
def f_J13_bitCount_95d88 (x0 : Int64) : Option Int32 := bb_J13_bitCount_95d88_0 x0
theorem s_J13_bitCount_95d88 {l : Launch} {E : Ev} {x0 : Int64} {M : Mm} {v : Int32} (h : f_J13_bitCount_95d88 x0 = some v) : MetA l yJ13_bitCount_95d88 cJ13_bitCount_95d88 2 (some .int) 1 E [.long x0] M (some (.int v)) M := by
  refine MetA.of (by decide +kernel) (Nat.le_of_ble_eq_true rfl) ?_
  intro p e s m below meth c C hr hnm
  exact G.sub [0] rfl (gb_J13_bitCount_95d88_0 C hr  h)
def bb_X4_apartBy_25_20 (k_20 : Int32 → Int64 → Int32 → Int32 → Int32 → Mm → Option Int32) (x1 : Int32) (x2 : Int64) (x5 : Int32) (x6 : Int32) (x7 : Int32) (M : Mm) : Option Int32 := if x6 ≤ x7 then (some x5) else (ltv (((8 : Int32) * x1) + x7) fun x8_1 => if x8_1 < 0 then (ltv (x7 + (1 : Int32)) fun x7_2 => k_20 x1 x2 x5 x6 x7_2 M) else (if (128 : Int32) ≤ x8_1 then (ltv (x7 + (1 : Int32)) fun x7_3 => k_20 x1 x2 x5 x6 x7_3 M) else (gd (inb x8_1 128) (bd (f_J13_bitCount_95d88 ((M.2 25 (ix x8_1)) ^^^ x2)) fun v_6 => ltv (if v_6 < x5 then v_6 else x5) fun x5_7 => ltv (x7 + (1 : Int32)) fun x7_8 => k_20 x1 x2 x5_7 x6 x7_8 M))))
set_option maxHeartbeats 4000000 in
set_option maxRecDepth 100000 in
theorem gb_X4_apartBy_25_20  {k_20 : Int32 → Int64 → Int32 → Int32 → Int32 → Mm → Option Int32} {x1 : Int32} {x2 : Int64} {x5 : Int32} {x6 : Int32} {x7 : Int32} {M : Mm} {v : Int32} (hE : Has shC (eH E)) (C : Cx RX4 cX4_apartBy 9 p (rmD 2) s m args meth c E) (hr : meth.sig.returnType = (some .int)) (hk_20 : ∀ (x1 : Int32) (x2 : Int64) (x5 : Int32) (x6 : Int32) (x7 : Int32) (M : Mm), k_20 x1 x2 x5 x6 x7 M = some v → G p l e (rmD 2) s m args below meth c E 9 0 0 (QR below args s E 0 0 (some (.int v)) M) 20 [(0, .ref (eA E 25)), (1, .int x1), (2, .long x2), (5, .int x5), (6, .int x6), (7, .int x7)] [] M) (h : bb_X4_apartBy_25_20 k_20 x1 x2 x5 x6 x7 M = some v) : G p l e (rmD 2) s m args below meth c E 9 0 0 (QR below args s E 0 0 (some (.int v)) M) 20 [(0, .ref (eA E 25)), (1, .int x1), (2, .long x2), (5, .int x5), (6, .int x6), (7, .int x7)] [] M := by
  unfold bb_X4_apartBy_25_20 at h
  refine G.iload C 5 dX4_apartBy_20 rfl ?_
  refine G.iload C 4 dX4_apartBy_22 rfl ?_
  refine G.icmp_ge (tgt := 70) C dX4_apartBy_24 (by decide) (fun hc => ?_) (fun hc => ?_)
  · have h := it_t h hc
    refine G.iload C 3 dX4_apartBy_70 rfl ?_
    cases h
    exact G.iret C hr dX4_apartBy_72
  · have h := it_f h hc
    refine G.bipush (v := (8 : Int32)) C dX4_apartBy_27 (by decide) ?_
    refine G.iload_n C 1 dX4_apartBy_29 rfl rfl ?_
    refine G.imul C dX4_apartBy_30 ?_
    refine G.iload C 5 dX4_apartBy_31 rfl ?_
    refine G.iadd C dX4_apartBy_33 ?_
    obtain ⟨x8_1, ex8_1, h⟩ := ltv_ex h
    refine G.istore (L' := [(8, .int x8_1), (0, .ref (eA E 25)), (1, .int x1), (2, .long x2), (5, .int x5), (6, .int x6), (7, .int x7)]) C dX4_apartBy_34 ex8_1 (by decide) rfl ?_
    refine G.iload C 0 dX4_apartBy_36 rfl ?_
    refine G.if_lt (tgt := 64) C dX4_apartBy_38 (by decide) (fun hc => ?_) (fun hc => ?_)
    · have h := it_t h hc
      obtain ⟨x7_2, ex7_2, h⟩ := ltv_ex h
      refine G.iinc (L' := [(7, .int x7_2), (8, .int x8_1), (0, .ref (eA E 25)), (1, .int x1), (2, .long x2), (5, .int x5), (6, .int x6)]) C 6 dX4_apartBy_64 rfl (ex7_2.trans rfl) (by decide) rfl ?_
      refine G.goto (tgt := 20) C dX4_apartBy_67 (by decide) ?_
      exact G.sub [2, 3, 4, 5, 6, 0] rfl (hk_20 _ _ _ _ _ _  h)
    · have h := it_f h hc
      refine G.iload C 0 dX4_apartBy_41 rfl ?_
      refine G.aload_n C 1 dX4_apartBy_43 rfl rfl ?_
      refine G.alen (v := (128 : Int32)) C (sc_25 hE) rfl (by decide) dX4_apartBy_44 ?_
      refine G.icmp_ge (tgt := 64) C dX4_apartBy_45 (by decide) (fun hc => ?_) (fun hc => ?_)
      · have h := it_t h hc
        obtain ⟨x7_3, ex7_3, h⟩ := ltv_ex h
        refine G.iinc (L' := [(7, .int x7_3), (8, .int x8_1), (0, .ref (eA E 25)), (1, .int x1), (2, .long x2), (5, .int x5), (6, .int x6)]) C 6 dX4_apartBy_64 rfl (ex7_3.trans rfl) (by decide) rfl ?_
        refine G.goto (tgt := 20) C dX4_apartBy_67 (by decide) ?_
        exact G.sub [2, 3, 4, 5, 6, 0] rfl (hk_20 _ _ _ _ _ _  h)
      · have h := it_f h hc
        refine G.iload C 4 dX4_apartBy_48 rfl ?_
        refine G.aload_n C 1 dX4_apartBy_50 rfl rfl ?_
        refine G.iload C 0 dX4_apartBy_51 rfl ?_
        obtain ⟨hg_4, h⟩ := gd_ex h
        refine G.aJ (j := ix x8_1) C (sc_25 hE) hg_4 rfl dX4_apartBy_53 ?_
        refine G.lload_n C 3 dX4_apartBy_54 rfl rfl ?_
        refine G.lxor C dX4_apartBy_55 ?_
        obtain ⟨v_6, hv_5, h⟩ := bd_ex h
        refine G.callS (rest := [.int x5]) C (s_J13_bitCount_95d88  hv_5) ⟨tg_457, tg_102, ok_J13_bitCount_95d88, Nat.le_of_ble_eq_true rfl, Nat.le_of_ble_eq_true rfl⟩ tg_972 tg_456 rfl (Nat.le_of_ble_eq_true rfl) dX4_apartBy_56 ⟨Nat.le_refl 0, Nat.le_refl 0⟩ ?_
        refine G.mmin (rest := []) C tg_473 tg_421 tg_100 tg_422 ⟨Nat.le_of_ble_eq_true rfl, Nat.le_of_ble_eq_true rfl⟩ (Nat.le_of_ble_eq_true rfl) ⟨Nat.le_refl 0, Nat.le_refl 0⟩ dX4_apartBy_59 ?_
        obtain ⟨x5_7, ex5_7, h⟩ := ltv_ex h
        refine G.istore (L' := [(5, .int x5_7), (8, .int x8_1), (0, .ref (eA E 25)), (1, .int x1), (2, .long x2), (6, .int x6), (7, .int x7)]) C dX4_apartBy_62 ex5_7 (by decide) rfl ?_
        obtain ⟨x7_8, ex7_8, h⟩ := ltv_ex h
        refine G.iinc (L' := [(7, .int x7_8), (5, .int x5_7), (8, .int x8_1), (0, .ref (eA E 25)), (1, .int x1), (2, .long x2), (6, .int x6)]) C 6 dX4_apartBy_64 rfl (ex7_8.trans rfl) (by decide) rfl ?_
        refine G.goto (tgt := 20) C dX4_apartBy_67 (by decide) ?_
        exact G.sub [3, 4, 5, 1, 6, 0] rfl (hk_20 _ _ _ _ _ _  h)
def b_X4_apartBy_25_20 : Nat → Int32 → Int64 → Int32 → Int32 → Int32 → Mm → Option Int32
  | 0, _, _, _, _, _, _ => none
  | n + 1, x1, x2, x5, x6, x7, M => bb_X4_apartBy_25_20 (b_X4_apartBy_25_20 n) x1 x2 x5 x6 x7 M
set_option maxHeartbeats 4000000 in
theorem g_X4_apartBy_25_20  {n : Nat} {x1 : Int32} {x2 : Int64} {x5 : Int32} {x6 : Int32} {x7 : Int32} {M : Mm} {v : Int32} (hE : Has shC (eH E)) (C : Cx RX4 cX4_apartBy 9 p (rmD 2) s m args meth c E) (hr : meth.sig.returnType = (some .int)) (h : b_X4_apartBy_25_20 n x1 x2 x5 x6 x7 M = some v) : G p l e (rmD 2) s m args below meth c E 9 0 0 (QR below args s E 0 0 (some (.int v)) M) 20 [(0, .ref (eA E 25)), (1, .int x1), (2, .long x2), (5, .int x5), (6, .int x6), (7, .int x7)] [] M := by
  induction n generalizing x1 x2 x5 x6 x7 M with
  | zero => cases h
  | succ n ih => exact gb_X4_apartBy_25_20 hE C hr (fun _ _ _ _ _ _ => ih)  h
def bb_X4_apartBy_25_0 (x1 : Int32) (x2 : Int64) (x4 : Int32) (M : Mm) : Option Int32 := if x4 = 0 then (b_X4_apartBy_25_20 FU x1 x2 (64 : Int32) (4 : Int32) (0 : Int32) M) else (b_X4_apartBy_25_20 FU x1 x2 (64 : Int32) (8 : Int32) (0 : Int32) M)
set_option maxHeartbeats 4000000 in
set_option maxRecDepth 100000 in
theorem gb_X4_apartBy_25_0  {x1 : Int32} {x2 : Int64} {x4 : Int32} {M : Mm} {v : Int32} (hE : Has shC (eH E)) (C : Cx RX4 cX4_apartBy 9 p (rmD 2) s m args meth c E) (hr : meth.sig.returnType = (some .int)) (h : bb_X4_apartBy_25_0 x1 x2 x4 M = some v) : G p l e (rmD 2) s m args below meth c E 9 0 0 (QR below args s E 0 0 (some (.int v)) M) 0 [(0, .ref (eA E 25)), (1, .int x1), (2, .long x2), (4, .int x4)] [] M := by
  unfold bb_X4_apartBy_25_0 at h
  refine G.bipush (v := (64 : Int32)) C dX4_apartBy_0 (by decide) ?_
  refine G.istore (L' := [(5, .int (64 : Int32)), (0, .ref (eA E 25)), (1, .int x1), (2, .long x2), (4, .int x4)]) C dX4_apartBy_2 rfl (by decide) rfl ?_
  refine G.iload C 4 dX4_apartBy_4 rfl ?_
  refine G.if_eq (tgt := 14) C dX4_apartBy_6 (by decide) (fun hc => ?_) (fun hc => ?_)
  · have h := it_t h hc
    refine G.iconst (v := (4 : Int32)) C dX4_apartBy_14 (by decide) ?_
    refine G.istore (L' := [(6, .int (4 : Int32)), (5, .int (64 : Int32)), (0, .ref (eA E 25)), (1, .int x1), (2, .long x2), (4, .int x4)]) C dX4_apartBy_15 rfl (by decide) rfl ?_
    refine G.iconst (v := (0 : Int32)) C dX4_apartBy_17 (by decide) ?_
    refine G.istore (L' := [(7, .int (0 : Int32)), (6, .int (4 : Int32)), (5, .int (64 : Int32)), (0, .ref (eA E 25)), (1, .int x1), (2, .long x2), (4, .int x4)]) C dX4_apartBy_18 rfl (by decide) rfl ?_
    exact G.sub [3, 4, 5, 2, 1, 0] rfl (g_X4_apartBy_25_20 hE C hr  h)
  · have h := it_f h hc
    refine G.bipush (v := (8 : Int32)) C dX4_apartBy_9 (by decide) ?_
    refine G.goto (tgt := 15) C dX4_apartBy_11 (by decide) ?_
    refine G.istore (L' := [(6, .int (8 : Int32)), (5, .int (64 : Int32)), (0, .ref (eA E 25)), (1, .int x1), (2, .long x2), (4, .int x4)]) C dX4_apartBy_15 rfl (by decide) rfl ?_
    refine G.iconst (v := (0 : Int32)) C dX4_apartBy_17 (by decide) ?_
    refine G.istore (L' := [(7, .int (0 : Int32)), (6, .int (8 : Int32)), (5, .int (64 : Int32)), (0, .ref (eA E 25)), (1, .int x1), (2, .long x2), (4, .int x4)]) C dX4_apartBy_18 rfl (by decide) rfl ?_
    exact G.sub [3, 4, 5, 2, 1, 0] rfl (g_X4_apartBy_25_20 hE C hr  h)
def f_X4_apartBy_25 (x1 : Int32) (x2 : Int64) (x4 : Int32) (M : Mm) : Option Int32 := bb_X4_apartBy_25_0 x1 x2 x4 M
theorem s_X4_apartBy_25 {l : Launch} {E : Ev} {x1 : Int32} {x2 : Int64} {x4 : Int32} {M : Mm} {v : Int32} (hE : Has shC (eH E)) (h : f_X4_apartBy_25 x1 x2 x4 M = some v) : MetA l yX4_apartBy cX4_apartBy 9 (some .int) 2 E [.ref (eA E 25), .int x1, .long x2, .int x4] M (some (.int v)) M := by
  refine MetA.of (by decide +kernel) (Nat.le_of_ble_eq_true rfl) ?_
  intro p e s m below meth c C hr hnm
  exact G.sub [0, 1, 2, 3] rfl (gb_X4_apartBy_25_0 hE C hr  h)
def bb_X1_apartOf_24_0 (x1 : Int32) (x2 : Int32) (x3 : Int32) (M : Mm) : Option Int32 := if x2 < 0 then (some (64 : Int32)) else (if x2 < (M.1 24 5) then (gd (inb ((8 : Int32) * x2) 128) (bd (f_X4_apartBy_25 x1 (M.2 25 (ix ((8 : Int32) * x2))) x3 M) fun v_3 => some v_3)) else (some (64 : Int32)))
set_option maxHeartbeats 4000000 in
set_option maxRecDepth 100000 in
theorem gb_X1_apartOf_24_0  {x1 : Int32} {x2 : Int32} {x3 : Int32} {M : Mm} {v : Int32} (hE : Has shC (eH E)) (C : Cx RX1 cX1_apartOf 4 p (rmD 3) s m args meth c E) (hr : meth.sig.returnType = (some .int)) (h : bb_X1_apartOf_24_0 x1 x2 x3 M = some v) : G p l e (rmD 3) s m args below meth c E 4 0 0 (QR below args s E 0 0 (some (.int v)) M) 0 [(0, .ref (eA E 24)), (1, .int x1), (2, .int x2), (3, .int x3)] [] M := by
  unfold bb_X1_apartOf_24_0 at h
  refine G.iload_n C 2 dX1_apartOf_0 rfl rfl ?_
  refine G.if_lt (tgt := 12) C dX1_apartOf_1 (by decide) (fun hc => ?_) (fun hc => ?_)
  · have h := it_t h hc
    refine G.bipush (v := (64 : Int32)) C dX1_apartOf_12 (by decide) ?_
    cases h
    exact G.iret C hr dX1_apartOf_14
  · have h := it_f h hc
    refine G.iload_n C 2 dX1_apartOf_4 rfl rfl ?_
    refine G.aload_n C 0 dX1_apartOf_5 rfl rfl ?_
    refine G.getI (k := 5) C k_X1 (sc_24 hE) rfl (by decide) tg_251 dX1_apartOf_6 ?_
    refine G.icmp_lt (tgt := 15) C dX1_apartOf_9 (by decide) (fun hc => ?_) (fun hc => ?_)
    · have h := it_t h hc
      refine G.aload_n C 0 dX1_apartOf_15 rfl rfl ?_
      refine G.getR (k := 0) C k_X1 (sc_24 hE) rfl (by decide) tg_246 dX1_apartOf_16 ?_
      refine G.iload_n C 1 dX1_apartOf_19 rfl rfl ?_
      refine G.aload_n C 0 dX1_apartOf_20 rfl rfl ?_
      refine G.getR (k := 0) C k_X1 (sc_24 hE) rfl (by decide) tg_246 dX1_apartOf_21 ?_
      refine G.bipush (v := (8 : Int32)) C dX1_apartOf_24 (by decide) ?_
      refine G.iload_n C 2 dX1_apartOf_26 rfl rfl ?_
      refine G.imul C dX1_apartOf_27 ?_
      obtain ⟨hg_1, h⟩ := gd_ex h
      refine G.aJ (j := ix ((8 : Int32) * x2)) C (sc_25 hE) hg_1 rfl dX1_apartOf_28 ?_
      refine G.iload_n C 3 dX1_apartOf_29 rfl rfl ?_
      obtain ⟨v_3, hv_2, h⟩ := bd_ex h
      refine G.callS (rest := []) C (s_X4_apartBy_25 hE  hv_2) ⟨tg_971, tg_101, ok_X4_apartBy, Nat.le_of_ble_eq_true rfl, Nat.le_of_ble_eq_true rfl⟩ tg_969 tg_970 rfl (Nat.le_of_ble_eq_true rfl) dX1_apartOf_30 ⟨Nat.le_refl 0, Nat.le_refl 0⟩ ?_
      cases h
      exact G.iret C hr dX1_apartOf_33
    · have h := it_f h hc
      refine G.bipush (v := (64 : Int32)) C dX1_apartOf_12 (by decide) ?_
      cases h
      exact G.iret C hr dX1_apartOf_14
def f_X1_apartOf_24 (x1 : Int32) (x2 : Int32) (x3 : Int32) (M : Mm) : Option Int32 := bb_X1_apartOf_24_0 x1 x2 x3 M
theorem s_X1_apartOf_24 {l : Launch} {E : Ev} {x1 : Int32} {x2 : Int32} {x3 : Int32} {M : Mm} {v : Int32} (hE : Has shC (eH E)) (h : f_X1_apartOf_24 x1 x2 x3 M = some v) : MetA l yX1_apartOf cX1_apartOf 4 (some .int) 3 E [.ref (eA E 24), .int x1, .int x2, .int x3] M (some (.int v)) M := by
  refine MetA.of (by decide +kernel) (Nat.le_of_ble_eq_true rfl) ?_
  intro p e s m below meth c C hr hnm
  exact G.sub [0, 1, 2, 3] rfl (gb_X1_apartOf_24_0 hE C hr  h)
def bb_X1_apartFrom_24_0 (x1 : Int32) (x2 : Int64) (x4 : Int32) (M : Mm) : Option Int32 := bd (f_X4_toCorner x2) fun v_2 => bd (f_X4_apartBy_25 x1 v_2 x4 M) fun v_4 => some v_4
set_option maxHeartbeats 4000000 in
set_option maxRecDepth 100000 in
theorem gb_X1_apartFrom_24_0  {x1 : Int32} {x2 : Int64} {x4 : Int32} {M : Mm} {v : Int32} (hE : Has shC (eH E)) (C : Cx RX1 cX1_apartFrom 5 p (rmD 3) s m args meth c E) (hr : meth.sig.returnType = (some .int)) (h : bb_X1_apartFrom_24_0 x1 x2 x4 M = some v) : G p l e (rmD 3) s m args below meth c E 5 0 0 (QR below args s E 0 0 (some (.int v)) M) 0 [(0, .ref (eA E 24)), (1, .int x1), (2, .long x2), (4, .int x4)] [] M := by
  unfold bb_X1_apartFrom_24_0 at h
  refine G.aload_n C 0 dX1_apartFrom_0 rfl rfl ?_
  refine G.getR (k := 0) C k_X1 (sc_24 hE) rfl (by decide) tg_246 dX1_apartFrom_1 ?_
  refine G.iload_n C 1 dX1_apartFrom_4 rfl rfl ?_
  refine G.lload_n C 2 dX1_apartFrom_5 rfl rfl ?_
  obtain ⟨v_2, hv_1, h⟩ := bd_ex h
  refine G.callS (rest := [.int x1, .ref (eA E 25)]) C (s_X4_toCorner  hv_1) ⟨tg_434, tg_101, ok_X4_toCorner, Nat.le_of_ble_eq_true rfl, Nat.le_of_ble_eq_true rfl⟩ tg_1391 tg_433 rfl (Nat.le_of_ble_eq_true rfl) dX1_apartFrom_6 ⟨Nat.le_refl 0, Nat.le_refl 0⟩ ?_
  refine G.iload C 3 dX1_apartFrom_9 rfl ?_
  obtain ⟨v_4, hv_3, h⟩ := bd_ex h
  refine G.callS (rest := []) C (s_X4_apartBy_25 hE  hv_3) ⟨tg_971, tg_101, ok_X4_apartBy, Nat.le_of_ble_eq_true rfl, Nat.le_of_ble_eq_true rfl⟩ tg_969 tg_970 rfl (Nat.le_of_ble_eq_true rfl) dX1_apartFrom_11 ⟨Nat.le_refl 0, Nat.le_refl 0⟩ ?_
  cases h
  exact G.iret C hr dX1_apartFrom_14
def f_X1_apartFrom_24 (x1 : Int32) (x2 : Int64) (x4 : Int32) (M : Mm) : Option Int32 := bb_X1_apartFrom_24_0 x1 x2 x4 M
theorem s_X1_apartFrom_24 {l : Launch} {E : Ev} {x1 : Int32} {x2 : Int64} {x4 : Int32} {M : Mm} {v : Int32} (hE : Has shC (eH E)) (h : f_X1_apartFrom_24 x1 x2 x4 M = some v) : MetA l yX1_apartFrom cX1_apartFrom 5 (some .int) 3 E [.ref (eA E 24), .int x1, .long x2, .int x4] M (some (.int v)) M := by
  refine MetA.of (by decide +kernel) (Nat.le_of_ble_eq_true rfl) ?_
  intro p e s m below meth c C hr hnm
  exact G.sub [0, 1, 2, 3] rfl (gb_X1_apartFrom_24_0 hE C hr  h)
def bb_X1_nearestTo_24_10 (k_10 : Int64 → Int32 → Int32 → Int32 → Int32 → Mm → Option Int32) (x1 : Int64) (x3 : Int32) (x4 : Int32) (x5 : Int32) (x6 : Int32) (M : Mm) : Option Int32 := if (M.1 24 5) ≤ x6 then (some x4) else (bd (f_X1_apartFrom_24 x6 x1 x3 M) fun v_2 => if x5 ≤ v_2 then (ltv (x6 + (1 : Int32)) fun x6_3 => k_10 x1 x3 x4 x5 x6_3 M) else (ltv (x6 + (1 : Int32)) fun x6_4 => k_10 x1 x3 x6 v_2 x6_4 M))
set_option maxHeartbeats 4000000 in
set_option maxRecDepth 100000 in
theorem gb_X1_nearestTo_24_10  {k_10 : Int64 → Int32 → Int32 → Int32 → Int32 → Mm → Option Int32} {x1 : Int64} {x3 : Int32} {x4 : Int32} {x5 : Int32} {x6 : Int32} {M : Mm} {v : Int32} (hE : Has shC (eH E)) (C : Cx RX1 cX1_nearestTo 8 p (rmD 4) s m args meth c E) (hr : meth.sig.returnType = (some .int)) (hk_10 : ∀ (x1 : Int64) (x3 : Int32) (x4 : Int32) (x5 : Int32) (x6 : Int32) (M : Mm), k_10 x1 x3 x4 x5 x6 M = some v → G p l e (rmD 4) s m args below meth c E 8 0 0 (QR below args s E 0 0 (some (.int v)) M) 10 [(0, .ref (eA E 24)), (1, .long x1), (3, .int x3), (4, .int x4), (5, .int x5), (6, .int x6)] [] M) (h : bb_X1_nearestTo_24_10 k_10 x1 x3 x4 x5 x6 M = some v) : G p l e (rmD 4) s m args below meth c E 8 0 0 (QR below args s E 0 0 (some (.int v)) M) 10 [(0, .ref (eA E 24)), (1, .long x1), (3, .int x3), (4, .int x4), (5, .int x5), (6, .int x6)] [] M := by
  unfold bb_X1_nearestTo_24_10 at h
  refine G.iload C 5 dX1_nearestTo_10 rfl ?_
  refine G.aload_n C 0 dX1_nearestTo_12 rfl rfl ?_
  refine G.getI (k := 5) C k_X1 (sc_24 hE) rfl (by decide) tg_251 dX1_nearestTo_13 ?_
  refine G.icmp_ge (tgt := 50) C dX1_nearestTo_16 (by decide) (fun hc => ?_) (fun hc => ?_)
  · have h := it_t h hc
    refine G.iload C 3 dX1_nearestTo_50 rfl ?_
    cases h
    exact G.iret C hr dX1_nearestTo_52
  · have h := it_f h hc
    refine G.aload_n C 0 dX1_nearestTo_19 rfl rfl ?_
    refine G.iload C 5 dX1_nearestTo_20 rfl ?_
    refine G.lload_n C 1 dX1_nearestTo_22 rfl rfl ?_
    refine G.iload_n C 2 dX1_nearestTo_23 rfl rfl ?_
    obtain ⟨v_2, hv_1, h⟩ := bd_ex h
    refine G.callV (rest := []) C (s_X1_apartFrom_24 hE  hv_1) ⟨tg_1390, tg_94, ok_X1_apartFrom, Nat.le_of_ble_eq_true rfl, Nat.le_of_ble_eq_true rfl⟩ tg_1387 tg_1388 tg_1389 (sc_24 hE) rfl rfl (Nat.le_of_ble_eq_true rfl) dX1_nearestTo_24 ⟨Nat.le_refl 0, Nat.le_refl 0⟩ ?_
    refine G.istore (L' := [(7, .int v_2), (0, .ref (eA E 24)), (1, .long x1), (3, .int x3), (4, .int x4), (5, .int x5), (6, .int x6)]) C dX1_nearestTo_27 rfl (by decide) rfl ?_
    refine G.iload C 0 dX1_nearestTo_29 rfl ?_
    refine G.iload C 5 dX1_nearestTo_31 rfl ?_
    refine G.icmp_ge (tgt := 44) C dX1_nearestTo_33 (by decide) (fun hc => ?_) (fun hc => ?_)
    · have h := it_t h hc
      obtain ⟨x6_3, ex6_3, h⟩ := ltv_ex h
      refine G.iinc (L' := [(6, .int x6_3), (7, .int v_2), (0, .ref (eA E 24)), (1, .long x1), (3, .int x3), (4, .int x4), (5, .int x5)]) C 6 dX1_nearestTo_44 rfl (ex6_3.trans rfl) (by decide) rfl ?_
      refine G.goto (tgt := 10) C dX1_nearestTo_47 (by decide) ?_
      exact G.sub [2, 3, 4, 5, 6, 0] rfl (hk_10 _ _ _ _ _ _  h)
    · have h := it_f h hc
      refine G.iload C 0 dX1_nearestTo_36 rfl ?_
      refine G.istore (L' := [(5, .int v_2), (7, .int v_2), (0, .ref (eA E 24)), (1, .long x1), (3, .int x3), (4, .int x4), (6, .int x6)]) C dX1_nearestTo_38 rfl (by decide) rfl ?_
      refine G.iload C 6 dX1_nearestTo_40 rfl ?_
      refine G.istore (L' := [(4, .int x6), (5, .int v_2), (7, .int v_2), (0, .ref (eA E 24)), (1, .long x1), (3, .int x3), (6, .int x6)]) C dX1_nearestTo_42 rfl (by decide) rfl ?_
      obtain ⟨x6_4, ex6_4, h⟩ := ltv_ex h
      refine G.iinc (L' := [(6, .int x6_4), (4, .int x6), (5, .int v_2), (7, .int v_2), (0, .ref (eA E 24)), (1, .long x1), (3, .int x3)]) C 6 dX1_nearestTo_44 rfl (ex6_4.trans rfl) (by decide) rfl ?_
      refine G.goto (tgt := 10) C dX1_nearestTo_47 (by decide) ?_
      exact G.sub [4, 5, 6, 1, 2, 0] rfl (hk_10 _ _ _ _ _ _  h)
def b_X1_nearestTo_24_10 : Nat → Int64 → Int32 → Int32 → Int32 → Int32 → Mm → Option Int32
  | 0, _, _, _, _, _, _ => none
  | n + 1, x1, x3, x4, x5, x6, M => bb_X1_nearestTo_24_10 (b_X1_nearestTo_24_10 n) x1 x3 x4 x5 x6 M
set_option maxHeartbeats 4000000 in
theorem g_X1_nearestTo_24_10  {n : Nat} {x1 : Int64} {x3 : Int32} {x4 : Int32} {x5 : Int32} {x6 : Int32} {M : Mm} {v : Int32} (hE : Has shC (eH E)) (C : Cx RX1 cX1_nearestTo 8 p (rmD 4) s m args meth c E) (hr : meth.sig.returnType = (some .int)) (h : b_X1_nearestTo_24_10 n x1 x3 x4 x5 x6 M = some v) : G p l e (rmD 4) s m args below meth c E 8 0 0 (QR below args s E 0 0 (some (.int v)) M) 10 [(0, .ref (eA E 24)), (1, .long x1), (3, .int x3), (4, .int x4), (5, .int x5), (6, .int x6)] [] M := by
  induction n generalizing x1 x3 x4 x5 x6 M with
  | zero => cases h
  | succ n ih => exact gb_X1_nearestTo_24_10 hE C hr (fun _ _ _ _ _ _ => ih)  h
def bb_X1_nearestTo_24_0 (x1 : Int64) (x3 : Int32) (M : Mm) : Option Int32 := b_X1_nearestTo_24_10 FU x1 x3 (-1 : Int32) (65 : Int32) (0 : Int32) M
set_option maxHeartbeats 4000000 in
set_option maxRecDepth 100000 in
theorem gb_X1_nearestTo_24_0  {x1 : Int64} {x3 : Int32} {M : Mm} {v : Int32} (hE : Has shC (eH E)) (C : Cx RX1 cX1_nearestTo 8 p (rmD 4) s m args meth c E) (hr : meth.sig.returnType = (some .int)) (h : bb_X1_nearestTo_24_0 x1 x3 M = some v) : G p l e (rmD 4) s m args below meth c E 8 0 0 (QR below args s E 0 0 (some (.int v)) M) 0 [(0, .ref (eA E 24)), (1, .long x1), (3, .int x3)] [] M := by
  unfold bb_X1_nearestTo_24_0 at h
  refine G.iconst (v := (-1 : Int32)) C dX1_nearestTo_0 (by decide) ?_
  refine G.istore (L' := [(4, .int (-1 : Int32)), (0, .ref (eA E 24)), (1, .long x1), (3, .int x3)]) C dX1_nearestTo_1 rfl (by decide) rfl ?_
  refine G.bipush (v := (65 : Int32)) C dX1_nearestTo_3 (by decide) ?_
  refine G.istore (L' := [(5, .int (65 : Int32)), (4, .int (-1 : Int32)), (0, .ref (eA E 24)), (1, .long x1), (3, .int x3)]) C dX1_nearestTo_5 rfl (by decide) rfl ?_
  refine G.iconst (v := (0 : Int32)) C dX1_nearestTo_7 (by decide) ?_
  refine G.istore (L' := [(6, .int (0 : Int32)), (5, .int (65 : Int32)), (4, .int (-1 : Int32)), (0, .ref (eA E 24)), (1, .long x1), (3, .int x3)]) C dX1_nearestTo_8 rfl (by decide) rfl ?_
  exact G.sub [3, 4, 5, 2, 1, 0] rfl (g_X1_nearestTo_24_10 hE C hr  h)
def f_X1_nearestTo_24 (x1 : Int64) (x3 : Int32) (M : Mm) : Option Int32 := bb_X1_nearestTo_24_0 x1 x3 M
theorem s_X1_nearestTo_24 {l : Launch} {E : Ev} {x1 : Int64} {x3 : Int32} {M : Mm} {v : Int32} (hE : Has shC (eH E)) (h : f_X1_nearestTo_24 x1 x3 M = some v) : MetA l yX1_nearestTo cX1_nearestTo 8 (some .int) 4 E [.ref (eA E 24), .long x1, .int x3] M (some (.int v)) M := by
  refine MetA.of (by decide +kernel) (Nat.le_of_ble_eq_true rfl) ?_
  intro p e s m below meth c C hr hnm
  exact G.sub [0, 1, 2] rfl (gb_X1_nearestTo_24_0 hE C hr  h)
def bb_X1_layServing_24_25 (k_5 : Int32 → Int32 → Int32 → Int32 → Mm → Option Mm) (k_25 : Int32 → Int32 → Int32 → Int32 → Int32 → Mm → Option Mm) (x1 : Int32) (x2 : Int32) (x3 : Int32) (x4 : Int32) (x5 : Int32) (M : Mm) : Option Mm := if (M.1 24 5) ≤ x5 then (gd (inb x4 16) (ltv (x3 ||| (M.1 27 (ix x4))) fun x3_4 => gd (inb x4 16) (ltv (wI M 28 (ix x4) x3_4) fun M_6 => ltv (x4 + (1 : Int32)) fun x4_7 => k_5 x1 x2 x3_4 x4_7 M_6))) else (bd (f_X1_apartOf_24 x4 x5 x2 M) fun v_9 => if x1 < v_9 then (ltv (x5 + (1 : Int32)) fun x5_10 => k_25 x1 x2 x3 x4 x5_10 M) else (gd (inb x4 16) (gd (inb x4 16) (ltv (wI M 27 (ix x4) ((M.1 27 (ix x4)) ||| (shI (1 : Int32) x5))) fun M_13 => ltv (x5 + (1 : Int32)) fun x5_14 => k_25 x1 x2 x3 x4 x5_14 M_13))))
set_option maxHeartbeats 4000000 in
set_option maxRecDepth 100000 in
theorem gb_X1_layServing_24_25  {k_5 : Int32 → Int32 → Int32 → Int32 → Mm → Option Mm} {k_25 : Int32 → Int32 → Int32 → Int32 → Int32 → Mm → Option Mm} {x1 : Int32} {x2 : Int32} {x3 : Int32} {x4 : Int32} {x5 : Int32} {M : Mm} {M' : Mm} (hE : Has shC (eH E)) (C : Cx RX1 cX1_layServing 6 p (rmD 4) s m args meth c E) (hr : meth.sig.returnType = none) (hk_5 : ∀ (x1 : Int32) (x2 : Int32) (x3 : Int32) (x4 : Int32) (M : Mm), k_5 x1 x2 x3 x4 M = some M' → G p l e (rmD 4) s m args below meth c E 6 0 0 (QR below args s E 0 0 none M') 5 [(0, .ref (eA E 24)), (1, .int x1), (2, .int x2), (3, .int x3), (4, .int x4)] [] M) (hk_25 : ∀ (x1 : Int32) (x2 : Int32) (x3 : Int32) (x4 : Int32) (x5 : Int32) (M : Mm), k_25 x1 x2 x3 x4 x5 M = some M' → G p l e (rmD 4) s m args below meth c E 6 0 0 (QR below args s E 0 0 none M') 25 [(0, .ref (eA E 24)), (1, .int x1), (2, .int x2), (3, .int x3), (4, .int x4), (5, .int x5)] [] M) (h : bb_X1_layServing_24_25 k_5 k_25 x1 x2 x3 x4 x5 M = some M') : G p l e (rmD 4) s m args below meth c E 6 0 0 (QR below args s E 0 0 none M') 25 [(0, .ref (eA E 24)), (1, .int x1), (2, .int x2), (3, .int x3), (4, .int x4), (5, .int x5)] [] M := by
  unfold bb_X1_layServing_24_25 at h
  refine G.iload C 5 dX1_layServing_25 rfl ?_
  refine G.aload_n C 0 dX1_layServing_27 rfl rfl ?_
  refine G.getI (k := 5) C k_X1 (sc_24 hE) rfl (by decide) tg_251 dX1_layServing_28 ?_
  refine G.icmp_ge (tgt := 67) C dX1_layServing_31 (by decide) (fun hc => ?_) (fun hc => ?_)
  · have h := it_t h hc
    refine G.iload_n C 3 dX1_layServing_67 rfl rfl ?_
    refine G.aload_n C 0 dX1_layServing_68 rfl rfl ?_
    refine G.getR (k := 2) C k_X1 (sc_24 hE) rfl (by decide) tg_248 dX1_layServing_69 ?_
    refine G.iload C 4 dX1_layServing_72 rfl ?_
    obtain ⟨hg_3, h⟩ := gd_ex h
    refine G.aI (j := ix x4) C (sc_27 hE) hg_3 rfl dX1_layServing_74 ?_
    refine G.ior C dX1_layServing_75 ?_
    obtain ⟨x3_4, ex3_4, h⟩ := ltv_ex h
    refine G.istore_n (L' := [(3, .int x3_4), (0, .ref (eA E 24)), (1, .int x1), (2, .int x2), (4, .int x4), (5, .int x5)]) C dX1_layServing_76 rfl ex3_4 (by decide) rfl ?_
    refine G.aload_n C 1 dX1_layServing_77 rfl rfl ?_
    refine G.getR (k := 3) C k_X1 (sc_24 hE) rfl (by decide) tg_249 dX1_layServing_78 ?_
    refine G.iload C 4 dX1_layServing_81 rfl ?_
    refine G.iload_n C 0 dX1_layServing_83 rfl rfl ?_
    obtain ⟨hg_5, h⟩ := gd_ex h
    obtain ⟨M_6, eM_6, h⟩ := ltv_ex h
    refine G.sI (j := (ix x4)) C (sc_28 hE) hg_5 rfl dX1_layServing_84 eM_6 ?_
    obtain ⟨x4_7, ex4_7, h⟩ := ltv_ex h
    refine G.iinc (L' := [(4, .int x4_7), (3, .int x3_4), (0, .ref (eA E 24)), (1, .int x1), (2, .int x2), (5, .int x5)]) C 4 dX1_layServing_85 rfl (ex4_7.trans rfl) (by decide) rfl ?_
    refine G.goto (tgt := 5) C dX1_layServing_88 (by decide) ?_
    exact G.sub [2, 3, 4, 1, 0] rfl (hk_5 _ _ _ _ _  h)
  · have h := it_f h hc
    refine G.aload_n C 0 dX1_layServing_34 rfl rfl ?_
    refine G.iload C 4 dX1_layServing_35 rfl ?_
    refine G.iload C 5 dX1_layServing_37 rfl ?_
    refine G.iload_n C 2 dX1_layServing_39 rfl rfl ?_
    obtain ⟨v_9, hv_8, h⟩ := bd_ex h
    refine G.callV (rest := []) C (s_X1_apartOf_24 hE  hv_8) ⟨tg_968, tg_94, ok_X1_apartOf, Nat.le_of_ble_eq_true rfl, Nat.le_of_ble_eq_true rfl⟩ tg_988 tg_966 tg_967 (sc_24 hE) rfl rfl (Nat.le_of_ble_eq_true rfl) dX1_layServing_40 ⟨Nat.le_refl 0, Nat.le_refl 0⟩ ?_
    refine G.iload_n C 1 dX1_layServing_43 rfl rfl ?_
    refine G.icmp_gt (tgt := 61) C dX1_layServing_44 (by decide) (fun hc => ?_) (fun hc => ?_)
    · have h := it_t h hc
      obtain ⟨x5_10, ex5_10, h⟩ := ltv_ex h
      refine G.iinc (L' := [(5, .int x5_10), (0, .ref (eA E 24)), (1, .int x1), (2, .int x2), (3, .int x3), (4, .int x4)]) C 5 dX1_layServing_61 rfl (ex5_10.trans rfl) (by decide) rfl ?_
      refine G.goto (tgt := 25) C dX1_layServing_64 (by decide) ?_
      exact G.sub [1, 2, 3, 4, 5, 0] rfl (hk_25 _ _ _ _ _ _  h)
    · have h := it_f h hc
      refine G.aload_n C 0 dX1_layServing_47 rfl rfl ?_
      refine G.getR (k := 2) C k_X1 (sc_24 hE) rfl (by decide) tg_248 dX1_layServing_48 ?_
      refine G.iload C 4 dX1_layServing_51 rfl ?_
      refine G.dup2_11 C dX1_layServing_53 rfl rfl ?_
      obtain ⟨hg_11, h⟩ := gd_ex h
      refine G.aI (j := ix x4) C (sc_27 hE) hg_11 rfl dX1_layServing_54 ?_
      refine G.iconst (v := (1 : Int32)) C dX1_layServing_55 (by decide) ?_
      refine G.iload C 5 dX1_layServing_56 rfl ?_
      refine G.isl C dX1_layServing_58 ?_
      refine G.ior C dX1_layServing_59 ?_
      obtain ⟨hg_12, h⟩ := gd_ex h
      obtain ⟨M_13, eM_13, h⟩ := ltv_ex h
      refine G.sI (j := (ix x4)) C (sc_27 hE) hg_12 rfl dX1_layServing_60 eM_13 ?_
      obtain ⟨x5_14, ex5_14, h⟩ := ltv_ex h
      refine G.iinc (L' := [(5, .int x5_14), (0, .ref (eA E 24)), (1, .int x1), (2, .int x2), (3, .int x3), (4, .int x4)]) C 5 dX1_layServing_61 rfl (ex5_14.trans rfl) (by decide) rfl ?_
      refine G.goto (tgt := 25) C dX1_layServing_64 (by decide) ?_
      exact G.sub [1, 2, 3, 4, 5, 0] rfl (hk_25 _ _ _ _ _ _  h)
def b_X1_layServing_24_25 (k_5 : Int32 → Int32 → Int32 → Int32 → Mm → Option Mm) : Nat → Int32 → Int32 → Int32 → Int32 → Int32 → Mm → Option Mm
  | 0, _, _, _, _, _, _ => none
  | n + 1, x1, x2, x3, x4, x5, M => bb_X1_layServing_24_25 k_5 (b_X1_layServing_24_25 k_5 n) x1 x2 x3 x4 x5 M
set_option maxHeartbeats 4000000 in
theorem g_X1_layServing_24_25  {k_5 : Int32 → Int32 → Int32 → Int32 → Mm → Option Mm} {n : Nat} {x1 : Int32} {x2 : Int32} {x3 : Int32} {x4 : Int32} {x5 : Int32} {M : Mm} {M' : Mm} (hE : Has shC (eH E)) (C : Cx RX1 cX1_layServing 6 p (rmD 4) s m args meth c E) (hr : meth.sig.returnType = none) (hk_5 : ∀ (x1 : Int32) (x2 : Int32) (x3 : Int32) (x4 : Int32) (M : Mm), k_5 x1 x2 x3 x4 M = some M' → G p l e (rmD 4) s m args below meth c E 6 0 0 (QR below args s E 0 0 none M') 5 [(0, .ref (eA E 24)), (1, .int x1), (2, .int x2), (3, .int x3), (4, .int x4)] [] M) (h : b_X1_layServing_24_25 k_5 n x1 x2 x3 x4 x5 M = some M') : G p l e (rmD 4) s m args below meth c E 6 0 0 (QR below args s E 0 0 none M') 25 [(0, .ref (eA E 24)), (1, .int x1), (2, .int x2), (3, .int x3), (4, .int x4), (5, .int x5)] [] M := by
  induction n generalizing x1 x2 x3 x4 x5 M with
  | zero => cases h
  | succ n ih => exact gb_X1_layServing_24_25 hE C hr hk_5 (fun _ _ _ _ _ _ => ih)  h
def bb_X1_layServing_24_5 (k_5 : Int32 → Int32 → Int32 → Int32 → Mm → Option Mm) (x1 : Int32) (x2 : Int32) (x3 : Int32) (x4 : Int32) (M : Mm) : Option Mm := if (M.1 24 5) ≤ x4 then (some M) else (gd (inb x4 16) (ltv (wI M 27 (ix x4) (0 : Int32)) fun M_2 => b_X1_layServing_24_25 k_5 FU x1 x2 x3 x4 (0 : Int32) M_2))
set_option maxHeartbeats 4000000 in
set_option maxRecDepth 100000 in
theorem gb_X1_layServing_24_5  {k_5 : Int32 → Int32 → Int32 → Int32 → Mm → Option Mm} {x1 : Int32} {x2 : Int32} {x3 : Int32} {x4 : Int32} {M : Mm} {M' : Mm} (hE : Has shC (eH E)) (C : Cx RX1 cX1_layServing 6 p (rmD 4) s m args meth c E) (hr : meth.sig.returnType = none) (hk_5 : ∀ (x1 : Int32) (x2 : Int32) (x3 : Int32) (x4 : Int32) (M : Mm), k_5 x1 x2 x3 x4 M = some M' → G p l e (rmD 4) s m args below meth c E 6 0 0 (QR below args s E 0 0 none M') 5 [(0, .ref (eA E 24)), (1, .int x1), (2, .int x2), (3, .int x3), (4, .int x4)] [] M) (h : bb_X1_layServing_24_5 k_5 x1 x2 x3 x4 M = some M') : G p l e (rmD 4) s m args below meth c E 6 0 0 (QR below args s E 0 0 none M') 5 [(0, .ref (eA E 24)), (1, .int x1), (2, .int x2), (3, .int x3), (4, .int x4)] [] M := by
  unfold bb_X1_layServing_24_5 at h
  refine G.iload C 4 dX1_layServing_5 rfl ?_
  refine G.aload_n C 0 dX1_layServing_7 rfl rfl ?_
  refine G.getI (k := 5) C k_X1 (sc_24 hE) rfl (by decide) tg_251 dX1_layServing_8 ?_
  refine G.icmp_ge (tgt := 91) C dX1_layServing_11 (by decide) (fun hc => ?_) (fun hc => ?_)
  · have h := it_t h hc
    cases h
    exact G.vret C hr dX1_layServing_91
  · have h := it_f h hc
    refine G.aload_n C 0 dX1_layServing_14 rfl rfl ?_
    refine G.getR (k := 2) C k_X1 (sc_24 hE) rfl (by decide) tg_248 dX1_layServing_15 ?_
    refine G.iload C 4 dX1_layServing_18 rfl ?_
    refine G.iconst (v := (0 : Int32)) C dX1_layServing_20 (by decide) ?_
    obtain ⟨hg_1, h⟩ := gd_ex h
    obtain ⟨M_2, eM_2, h⟩ := ltv_ex h
    refine G.sI (j := (ix x4)) C (sc_27 hE) hg_1 rfl dX1_layServing_21 eM_2 ?_
    refine G.iconst (v := (0 : Int32)) C dX1_layServing_22 (by decide) ?_
    refine G.istore (L' := [(5, .int (0 : Int32)), (0, .ref (eA E 24)), (1, .int x1), (2, .int x2), (3, .int x3), (4, .int x4)]) C dX1_layServing_23 rfl (by decide) rfl ?_
    exact G.sub [1, 2, 3, 4, 5, 0] rfl (g_X1_layServing_24_25 hE C hr hk_5  h)
def b_X1_layServing_24_5 : Nat → Int32 → Int32 → Int32 → Int32 → Mm → Option Mm
  | 0, _, _, _, _, _ => none
  | n + 1, x1, x2, x3, x4, M => bb_X1_layServing_24_5 (b_X1_layServing_24_5 n) x1 x2 x3 x4 M
set_option maxHeartbeats 4000000 in
theorem g_X1_layServing_24_5  {n : Nat} {x1 : Int32} {x2 : Int32} {x3 : Int32} {x4 : Int32} {M : Mm} {M' : Mm} (hE : Has shC (eH E)) (C : Cx RX1 cX1_layServing 6 p (rmD 4) s m args meth c E) (hr : meth.sig.returnType = none) (h : b_X1_layServing_24_5 n x1 x2 x3 x4 M = some M') : G p l e (rmD 4) s m args below meth c E 6 0 0 (QR below args s E 0 0 none M') 5 [(0, .ref (eA E 24)), (1, .int x1), (2, .int x2), (3, .int x3), (4, .int x4)] [] M := by
  induction n generalizing x1 x2 x3 x4 M with
  | zero => cases h
  | succ n ih => exact gb_X1_layServing_24_5 hE C hr (fun _ _ _ _ _ => ih)  h
def bb_X1_layServing_24_0 (x1 : Int32) (x2 : Int32) (M : Mm) : Option Mm := b_X1_layServing_24_5 FU x1 x2 (0 : Int32) (0 : Int32) M
set_option maxHeartbeats 4000000 in
set_option maxRecDepth 100000 in
theorem gb_X1_layServing_24_0  {x1 : Int32} {x2 : Int32} {M : Mm} {M' : Mm} (hE : Has shC (eH E)) (C : Cx RX1 cX1_layServing 6 p (rmD 4) s m args meth c E) (hr : meth.sig.returnType = none) (h : bb_X1_layServing_24_0 x1 x2 M = some M') : G p l e (rmD 4) s m args below meth c E 6 0 0 (QR below args s E 0 0 none M') 0 [(0, .ref (eA E 24)), (1, .int x1), (2, .int x2)] [] M := by
  unfold bb_X1_layServing_24_0 at h
  refine G.iconst (v := (0 : Int32)) C dX1_layServing_0 (by decide) ?_
  refine G.istore_n (L' := [(3, .int (0 : Int32)), (0, .ref (eA E 24)), (1, .int x1), (2, .int x2)]) C dX1_layServing_1 rfl rfl (by decide) rfl ?_
  refine G.iconst (v := (0 : Int32)) C dX1_layServing_2 (by decide) ?_
  refine G.istore (L' := [(4, .int (0 : Int32)), (3, .int (0 : Int32)), (0, .ref (eA E 24)), (1, .int x1), (2, .int x2)]) C dX1_layServing_3 rfl (by decide) rfl ?_
  exact G.sub [2, 3, 4, 1, 0] rfl (g_X1_layServing_24_5 hE C hr  h)
def f_X1_layServing_24 (x1 : Int32) (x2 : Int32) (M : Mm) : Option Mm := bb_X1_layServing_24_0 x1 x2 M
theorem s_X1_layServing_24 {l : Launch} {E : Ev} {x1 : Int32} {x2 : Int32} {M : Mm} {M' : Mm} (hE : Has shC (eH E)) (h : f_X1_layServing_24 x1 x2 M = some M') : MetA l yX1_layServing cX1_layServing 6 none 4 E [.ref (eA E 24), .int x1, .int x2] M none M' := by
  refine MetA.of (by decide +kernel) (Nat.le_of_ble_eq_true rfl) ?_
  intro p e s m below meth c C hr hnm
  exact G.sub [0, 1, 2] rfl (gb_X1_layServing_24_0 hE C hr  h)
def bb_X1_chosen_27_28_0 (rc : Int32 → Int32 → Int32 → Mm → Option Int32) (x2 : Int32) (x3 : Int32) (x4 : Int32) (M : Mm) : Option Int32 := if x3 = 0 then (some (0 : Int32)) else (if x2 < 0 then (some (-1 : Int32)) else (if (16 : Int32) ≤ x2 then (some (-1 : Int32)) else (if x4 ≤ 0 then (some (-1 : Int32)) else (gd (inb x2 16) (if (x3 &&& ((M.1 28 (ix x2)) ^^^ (-1 : Int32))) = 0 then (bd (rc (x2 - (1 : Int32)) x3 x4 M) fun v_3 => if v_3 = (-1 : Int32) then (gd (inb x2 16) (bd (rc (x2 - (1 : Int32)) (x3 &&& ((M.1 27 (ix x2)) ^^^ (-1 : Int32))) (x4 - (1 : Int32)) M) fun v_6 => if v_6 = (-1 : Int32) then (some (-1 : Int32)) else (some (v_6 ||| (shI (1 : Int32) x2))))) else (some v_3)) else (some (-1 : Int32)))))))
set_option maxHeartbeats 4000000 in
set_option maxRecDepth 100000 in
theorem gb_X1_chosen_27_28_0 {dd : Nat}  {rc : Int32 → Int32 → Int32 → Mm → Option Int32} {x2 : Int32} {x3 : Int32} {x4 : Int32} {M : Mm} {v : Int32} (hE : Has shC (eH E)) (C : Cx RX1 cX1_chosen 7 p (rmD (1 + dd)) s m args meth c E) (hr : meth.sig.returnType = (some .int)) (hrc : ∀ (x2 : Int32) (x3 : Int32) (x4 : Int32) (M : Mm) (v : Int32), rc x2 x3 x4 M = some v → MetA l yX1_chosen cX1_chosen 7 (some .int) (0 + dd) E [.ref (eA E 27), .ref (eA E 28), .int x2, .int x3, .int x4] M (some (.int v)) M) (h : bb_X1_chosen_27_28_0 rc x2 x3 x4 M = some v) : G p l e (rmD (1 + dd)) s m args below meth c E 7 0 0 (QR below args s E 0 0 (some (.int v)) M) 0 [(0, .ref (eA E 27)), (1, .ref (eA E 28)), (2, .int x2), (3, .int x3), (4, .int x4)] [] M := by
  unfold bb_X1_chosen_27_28_0 at h
  refine G.iload_n C 3 dX1_chosen_0 rfl rfl ?_
  refine G.if_ne (tgt := 6) C dX1_chosen_1 (by decide) (fun hc => ?_) (fun hc => ?_)
  · have h := it_f h hc
    refine G.iload_n C 2 dX1_chosen_6 rfl rfl ?_
    refine G.if_lt (tgt := 31) C dX1_chosen_7 (by decide) (fun hc => ?_) (fun hc => ?_)
    · have h := it_t h hc
      refine G.iconst (v := (-1 : Int32)) C dX1_chosen_31 (by decide) ?_
      cases h
      exact G.iret C hr dX1_chosen_32
    · have h := it_f h hc
      refine G.iload_n C 2 dX1_chosen_10 rfl rfl ?_
      refine G.bipush (v := (16 : Int32)) C dX1_chosen_11 (by decide) ?_
      refine G.icmp_ge (tgt := 31) C dX1_chosen_13 (by decide) (fun hc => ?_) (fun hc => ?_)
      · have h := it_t h hc
        refine G.iconst (v := (-1 : Int32)) C dX1_chosen_31 (by decide) ?_
        cases h
        exact G.iret C hr dX1_chosen_32
      · have h := it_f h hc
        refine G.iload C 4 dX1_chosen_16 rfl ?_
        refine G.if_le (tgt := 31) C dX1_chosen_18 (by decide) (fun hc => ?_) (fun hc => ?_)
        · have h := it_t h hc
          refine G.iconst (v := (-1 : Int32)) C dX1_chosen_31 (by decide) ?_
          cases h
          exact G.iret C hr dX1_chosen_32
        · have h := it_f h hc
          refine G.iload_n C 3 dX1_chosen_21 rfl rfl ?_
          refine G.aload_n C 1 dX1_chosen_22 rfl rfl ?_
          refine G.iload_n C 2 dX1_chosen_23 rfl rfl ?_
          obtain ⟨hg_1, h⟩ := gd_ex h
          refine G.aI (j := ix x2) C (sc_28 hE) hg_1 rfl dX1_chosen_24 ?_
          refine G.iconst (v := (-1 : Int32)) C dX1_chosen_25 (by decide) ?_
          refine G.ixor C dX1_chosen_26 ?_
          refine G.iand C dX1_chosen_27 ?_
          refine G.if_eq (tgt := 33) C dX1_chosen_28 (by decide) (fun hc => ?_) (fun hc => ?_)
          · have h := it_t h hc
            refine G.aload_n C 0 dX1_chosen_33 rfl rfl ?_
            refine G.aload_n C 1 dX1_chosen_34 rfl rfl ?_
            refine G.iload_n C 2 dX1_chosen_35 rfl rfl ?_
            refine G.iconst (v := (1 : Int32)) C dX1_chosen_36 (by decide) ?_
            refine G.isub C dX1_chosen_37 ?_
            refine G.iload_n C 3 dX1_chosen_38 rfl rfl ?_
            refine G.iload C 4 dX1_chosen_39 rfl ?_
            obtain ⟨v_3, hv_2, h⟩ := bd_ex h
            refine G.callS (rest := []) C (hrc _ _ _ _ _  hv_2) ⟨tg_995, tg_94, ok_X1_chosen, (show 0 + dd + 1 ≤ 1 + dd by omega), (show 8 + (7 + 11) + 64 * (0 + dd) ≤ 64 * (1 + dd) by omega)⟩ tg_993 tg_994 rfl (Nat.le_of_ble_eq_true rfl) dX1_chosen_41 ⟨Nat.le_refl 0, Nat.le_refl 0⟩ ?_
            refine G.istore (L' := [(5, .int v_3), (0, .ref (eA E 27)), (1, .ref (eA E 28)), (2, .int x2), (3, .int x3), (4, .int x4)]) C dX1_chosen_44 rfl (by decide) rfl ?_
            refine G.iload C 0 dX1_chosen_46 rfl ?_
            refine G.iconst (v := (-1 : Int32)) C dX1_chosen_48 (by decide) ?_
            refine G.icmp_eq (tgt := 55) C dX1_chosen_49 (by decide) (fun hc => ?_) (fun hc => ?_)
            · have h := it_t h hc
              refine G.aload_n C 1 dX1_chosen_55 rfl rfl ?_
              refine G.aload_n C 2 dX1_chosen_56 rfl rfl ?_
              refine G.iload_n C 3 dX1_chosen_57 rfl rfl ?_
              refine G.iconst (v := (1 : Int32)) C dX1_chosen_58 (by decide) ?_
              refine G.isub C dX1_chosen_59 ?_
              refine G.iload_n C 4 dX1_chosen_60 rfl rfl ?_
              refine G.aload_n C 1 dX1_chosen_61 rfl rfl ?_
              refine G.iload_n C 3 dX1_chosen_62 rfl rfl ?_
              obtain ⟨hg_4, h⟩ := gd_ex h
              refine G.aI (j := ix x2) C (sc_27 hE) hg_4 rfl dX1_chosen_63 ?_
              refine G.iconst (v := (-1 : Int32)) C dX1_chosen_64 (by decide) ?_
              refine G.ixor C dX1_chosen_65 ?_
              refine G.iand C dX1_chosen_66 ?_
              refine G.iload C 5 dX1_chosen_67 rfl ?_
              refine G.iconst (v := (1 : Int32)) C dX1_chosen_69 (by decide) ?_
              refine G.isub C dX1_chosen_70 ?_
              obtain ⟨v_6, hv_5, h⟩ := bd_ex h
              refine G.callS (rest := []) C (hrc _ _ _ _ _  hv_5) ⟨tg_995, tg_94, ok_X1_chosen, (show 0 + dd + 1 ≤ 1 + dd by omega), (show 8 + (7 + 11) + 64 * (0 + dd) ≤ 64 * (1 + dd) by omega)⟩ tg_993 tg_994 rfl (Nat.le_of_ble_eq_true rfl) dX1_chosen_71 ⟨Nat.le_refl 0, Nat.le_refl 0⟩ ?_
              refine G.istore (L' := [(6, .int v_6), (5, .int v_3), (0, .ref (eA E 27)), (1, .ref (eA E 28)), (2, .int x2), (3, .int x3), (4, .int x4)]) C dX1_chosen_74 rfl (by decide) rfl ?_
              refine G.iload C 0 dX1_chosen_76 rfl ?_
              refine G.iconst (v := (-1 : Int32)) C dX1_chosen_78 (by decide) ?_
              refine G.icmp_ne (tgt := 86) C dX1_chosen_79 (by decide) (fun hc => ?_) (fun hc => ?_)
              · have h := it_f h hc
                refine G.iload C 0 dX1_chosen_86 rfl ?_
                refine G.iconst (v := (1 : Int32)) C dX1_chosen_88 (by decide) ?_
                refine G.iload_n C 4 dX1_chosen_89 rfl rfl ?_
                refine G.isl C dX1_chosen_90 ?_
                refine G.ior C dX1_chosen_91 ?_
                cases h
                exact G.iret C hr dX1_chosen_92
              · have h := it_t h hc
                refine G.iconst (v := (-1 : Int32)) C dX1_chosen_82 (by decide) ?_
                refine G.goto (tgt := 92) C dX1_chosen_83 (by decide) ?_
                cases h
                exact G.iret C hr dX1_chosen_92
            · have h := it_f h hc
              refine G.iload C 0 dX1_chosen_52 rfl ?_
              cases h
              exact G.iret C hr dX1_chosen_54
          · have h := it_f h hc
            refine G.iconst (v := (-1 : Int32)) C dX1_chosen_31 (by decide) ?_
            cases h
            exact G.iret C hr dX1_chosen_32
  · have h := it_t h hc
    refine G.iconst (v := (0 : Int32)) C dX1_chosen_4 (by decide) ?_
    cases h
    exact G.iret C hr dX1_chosen_5
def fr_X1_chosen_27_28 : Nat → Int32 → Int32 → Int32 → Mm → Option Int32
  | 0, _, _, _, _ => none
  | n + 1, x2, x3, x4, M => (bb_X1_chosen_27_28_0 (fr_X1_chosen_27_28 n) x2 x3 x4 M)
theorem sr_X1_chosen_27_28 {l : Launch} {E : Ev} (hE : Has shC (eH E)) (n : Nat) : ∀ (x2 : Int32) (x3 : Int32) (x4 : Int32) (M : Mm) (v : Int32), fr_X1_chosen_27_28 n x2 x3 x4 M = some v → MetA l yX1_chosen cX1_chosen 7 (some .int) (0 + n) E [.ref (eA E 27), .ref (eA E 28), .int x2, .int x3, .int x4] M (some (.int v)) M := by
  induction n with
  | zero => intros; rename_i h; cases h
  | succ n ih =>
    intro x2 x3 x4 M v  h
    refine MetA.of (by decide +kernel) (Nat.le_of_ble_eq_true rfl) ?_
    intro p e s m below meth c C hr hnm
    rw [show 0 + (n + 1) = 1 + n by omega] at C ⊢
    exact G.sub [0, 1, 2, 3, 4] rfl (gb_X1_chosen_27_28_0 (dd := n) hE C hr ih  h)
def f_X1_chosen_27_28 (x2 : Int32) (x3 : Int32) (x4 : Int32) (M : Mm) : Option Int32 := fr_X1_chosen_27_28 20 x2 x3 x4 M
theorem s_X1_chosen_27_28 {l : Launch} {E : Ev} {x2 : Int32} {x3 : Int32} {x4 : Int32} {M : Mm} {v : Int32} (hE : Has shC (eH E)) (h : f_X1_chosen_27_28 x2 x3 x4 M = some v) : MetA l yX1_chosen cX1_chosen 7 (some .int) 20 E [.ref (eA E 27), .ref (eA E 28), .int x2, .int x3, .int x4] M (some (.int v)) M := sr_X1_chosen_27_28 hE 20 _ _ _ _ _   h
def bb_X1_findLeastSet_24_11 (k_11 : Int32 → Int32 → Mm → Option Int32) (x1 : Int32) (x2 : Int32) (M : Mm) : Option Int32 := if (M.1 24 5) < x2 then (some x1) else (bd (f_X1_chosen_27_28 ((M.1 24 5) - (1 : Int32)) x1 x2 M) fun v_3 => if v_3 = (-1 : Int32) then (ltv (x2 + (1 : Int32)) fun x2_4 => k_11 x1 x2_4 M) else (some v_3))
set_option maxHeartbeats 4000000 in
set_option maxRecDepth 100000 in
theorem gb_X1_findLeastSet_24_11  {k_11 : Int32 → Int32 → Mm → Option Int32} {x1 : Int32} {x2 : Int32} {M : Mm} {v : Int32} (hE : Has shC (eH E)) (C : Cx RX1 cX1_findLeastSet 4 p (rmD 21) s m args meth c E) (hr : meth.sig.returnType = (some .int)) (hk_11 : ∀ (x1 : Int32) (x2 : Int32) (M : Mm), k_11 x1 x2 M = some v → G p l e (rmD 21) s m args below meth c E 4 0 0 (QR below args s E 0 0 (some (.int v)) M) 11 [(0, .ref (eA E 24)), (1, .int x1), (2, .int x2)] [] M) (h : bb_X1_findLeastSet_24_11 k_11 x1 x2 M = some v) : G p l e (rmD 21) s m args below meth c E 4 0 0 (QR below args s E 0 0 (some (.int v)) M) 11 [(0, .ref (eA E 24)), (1, .int x1), (2, .int x2)] [] M := by
  unfold bb_X1_findLeastSet_24_11 at h
  refine G.iload_n C 2 dX1_findLeastSet_11 rfl rfl ?_
  refine G.aload_n C 0 dX1_findLeastSet_12 rfl rfl ?_
  refine G.getI (k := 5) C k_X1 (sc_24 hE) rfl (by decide) tg_251 dX1_findLeastSet_13 ?_
  refine G.icmp_gt (tgt := 52) C dX1_findLeastSet_16 (by decide) (fun hc => ?_) (fun hc => ?_)
  · have h := it_t h hc
    refine G.iload_n C 1 dX1_findLeastSet_52 rfl rfl ?_
    cases h
    exact G.iret C hr dX1_findLeastSet_53
  · have h := it_f h hc
    refine G.aload_n C 0 dX1_findLeastSet_19 rfl rfl ?_
    refine G.getR (k := 2) C k_X1 (sc_24 hE) rfl (by decide) tg_248 dX1_findLeastSet_20 ?_
    refine G.aload_n C 0 dX1_findLeastSet_23 rfl rfl ?_
    refine G.getR (k := 3) C k_X1 (sc_24 hE) rfl (by decide) tg_249 dX1_findLeastSet_24 ?_
    refine G.aload_n C 0 dX1_findLeastSet_27 rfl rfl ?_
    refine G.getI (k := 5) C k_X1 (sc_24 hE) rfl (by decide) tg_251 dX1_findLeastSet_28 ?_
    refine G.iconst (v := (1 : Int32)) C dX1_findLeastSet_31 (by decide) ?_
    refine G.isub C dX1_findLeastSet_32 ?_
    refine G.iload_n C 1 dX1_findLeastSet_33 rfl rfl ?_
    refine G.iload_n C 2 dX1_findLeastSet_34 rfl rfl ?_
    obtain ⟨v_3, hv_2, h⟩ := bd_ex h
    refine G.callS (rest := []) C (s_X1_chosen_27_28 hE  hv_2) ⟨tg_995, tg_94, ok_X1_chosen, Nat.le_of_ble_eq_true rfl, Nat.le_of_ble_eq_true rfl⟩ tg_993 tg_994 rfl (Nat.le_of_ble_eq_true rfl) dX1_findLeastSet_35 ⟨Nat.le_refl 0, Nat.le_refl 0⟩ ?_
    refine G.istore_n (L' := [(3, .int v_3), (0, .ref (eA E 24)), (1, .int x1), (2, .int x2)]) C dX1_findLeastSet_38 rfl rfl (by decide) rfl ?_
    refine G.iload_n C 0 dX1_findLeastSet_39 rfl rfl ?_
    refine G.iconst (v := (-1 : Int32)) C dX1_findLeastSet_40 (by decide) ?_
    refine G.icmp_eq (tgt := 46) C dX1_findLeastSet_41 (by decide) (fun hc => ?_) (fun hc => ?_)
    · have h := it_t h hc
      obtain ⟨x2_4, ex2_4, h⟩ := ltv_ex h
      refine G.iinc (L' := [(2, .int x2_4), (3, .int v_3), (0, .ref (eA E 24)), (1, .int x1)]) C 3 dX1_findLeastSet_46 rfl (ex2_4.trans rfl) (by decide) rfl ?_
      refine G.goto (tgt := 11) C dX1_findLeastSet_49 (by decide) ?_
      exact G.sub [2, 3, 0] rfl (hk_11 _ _ _  h)
    · have h := it_f h hc
      refine G.iload_n C 0 dX1_findLeastSet_44 rfl rfl ?_
      cases h
      exact G.iret C hr dX1_findLeastSet_45
def b_X1_findLeastSet_24_11 : Nat → Int32 → Int32 → Mm → Option Int32
  | 0, _, _, _ => none
  | n + 1, x1, x2, M => bb_X1_findLeastSet_24_11 (b_X1_findLeastSet_24_11 n) x1 x2 M
set_option maxHeartbeats 4000000 in
theorem g_X1_findLeastSet_24_11  {n : Nat} {x1 : Int32} {x2 : Int32} {M : Mm} {v : Int32} (hE : Has shC (eH E)) (C : Cx RX1 cX1_findLeastSet 4 p (rmD 21) s m args meth c E) (hr : meth.sig.returnType = (some .int)) (h : b_X1_findLeastSet_24_11 n x1 x2 M = some v) : G p l e (rmD 21) s m args below meth c E 4 0 0 (QR below args s E 0 0 (some (.int v)) M) 11 [(0, .ref (eA E 24)), (1, .int x1), (2, .int x2)] [] M := by
  induction n generalizing x1 x2 M with
  | zero => cases h
  | succ n ih => exact gb_X1_findLeastSet_24_11 hE C hr (fun _ _ _ => ih)  h
def bb_X1_findLeastSet_24_0  (M : Mm) : Option Int32 := ltv ((shI (1 : Int32) (M.1 24 5)) - (1 : Int32)) fun x1_1 => b_X1_findLeastSet_24_11 FU x1_1 (0 : Int32) M
set_option maxHeartbeats 4000000 in
set_option maxRecDepth 100000 in
theorem gb_X1_findLeastSet_24_0   {M : Mm} {v : Int32} (hE : Has shC (eH E)) (C : Cx RX1 cX1_findLeastSet 4 p (rmD 21) s m args meth c E) (hr : meth.sig.returnType = (some .int)) (h : bb_X1_findLeastSet_24_0 M = some v) : G p l e (rmD 21) s m args below meth c E 4 0 0 (QR below args s E 0 0 (some (.int v)) M) 0 [(0, .ref (eA E 24))] [] M := by
  unfold bb_X1_findLeastSet_24_0 at h
  refine G.iconst (v := (1 : Int32)) C dX1_findLeastSet_0 (by decide) ?_
  refine G.aload_n C 0 dX1_findLeastSet_1 rfl rfl ?_
  refine G.getI (k := 5) C k_X1 (sc_24 hE) rfl (by decide) tg_251 dX1_findLeastSet_2 ?_
  refine G.isl C dX1_findLeastSet_5 ?_
  refine G.iconst (v := (1 : Int32)) C dX1_findLeastSet_6 (by decide) ?_
  refine G.isub C dX1_findLeastSet_7 ?_
  obtain ⟨x1_1, ex1_1, h⟩ := ltv_ex h
  refine G.istore_n (L' := [(1, .int x1_1), (0, .ref (eA E 24))]) C dX1_findLeastSet_8 rfl ex1_1 (by decide) rfl ?_
  refine G.iconst (v := (0 : Int32)) C dX1_findLeastSet_9 (by decide) ?_
  refine G.istore_n (L' := [(2, .int (0 : Int32)), (1, .int x1_1), (0, .ref (eA E 24))]) C dX1_findLeastSet_10 rfl rfl (by decide) rfl ?_
  exact G.sub [2, 1, 0] rfl (g_X1_findLeastSet_24_11 hE C hr  h)
def f_X1_findLeastSet_24  (M : Mm) : Option Int32 := bb_X1_findLeastSet_24_0 M
theorem s_X1_findLeastSet_24 {l : Launch} {E : Ev}  {M : Mm} {v : Int32} (hE : Has shC (eH E)) (h : f_X1_findLeastSet_24 M = some v) : MetA l yX1_findLeastSet cX1_findLeastSet 4 (some .int) 21 E [.ref (eA E 24)] M (some (.int v)) M := by
  refine MetA.of (by decide +kernel) (Nat.le_of_ble_eq_true rfl) ?_
  intro p e s m below meth c C hr hnm
  exact G.sub [0] rfl (gb_X1_findLeastSet_24_0 hE C hr  h)
def bb_X1_leastSet_24_12 (x1 : Int32) (x2 : Int32) (s0 : Int32) (s1 : Int32) (M : Mm) : Option (Int32 × Mm) := ltv (s0 + s1) fun x3_1 => if x3_1 < 0 then (some ((0 : Int32), M)) else (if x3_1 < (130 : Int32) then (gd (inb x3_1 130) (if (M.1 29 (ix x3_1)) = (-2 : Int32) then (bd (f_X1_layServing_24 x1 x2 M) fun M_5 => bd (f_X1_findLeastSet_24 M_5) fun v_7 => gd (inb x3_1 130) (ltv (wI M_5 29 (ix x3_1) v_7) fun M_9 => gd (inb x3_1 130) (some (M_9.1 29 (ix x3_1), M_9)))) else (gd (inb x3_1 130) (some (M.1 29 (ix x3_1), M))))) else (some ((0 : Int32), M)))
set_option maxHeartbeats 4000000 in
set_option maxRecDepth 100000 in
theorem gb_X1_leastSet_24_12  {x1 : Int32} {x2 : Int32} {s0 : Int32} {s1 : Int32} {M : Mm} {v : Int32} {M' : Mm} (hE : Has shC (eH E)) (C : Cx RX1 cX1_leastSet 4 p (rmD 22) s m args meth c E) (hr : meth.sig.returnType = (some .int)) (h : bb_X1_leastSet_24_12 x1 x2 s0 s1 M = some (v, M')) : G p l e (rmD 22) s m args below meth c E 4 0 0 (QR below args s E 0 0 (some (.int v)) M') 12 [(0, .ref (eA E 24)), (1, .int x1), (2, .int x2)] [.int s1, .int s0] M := by
  unfold bb_X1_leastSet_24_12 at h
  refine G.iadd C dX1_leastSet_12 ?_
  obtain ⟨x3_1, ex3_1, h⟩ := ltv_ex h
  refine G.istore_n (L' := [(3, .int x3_1), (0, .ref (eA E 24)), (1, .int x1), (2, .int x2)]) C dX1_leastSet_13 rfl ex3_1 (by decide) rfl ?_
  refine G.iload_n C 0 dX1_leastSet_14 rfl rfl ?_
  refine G.if_lt (tgt := 27) C dX1_leastSet_15 (by decide) (fun hc => ?_) (fun hc => ?_)
  · have h := it_t h hc
    refine G.iconst (v := (0 : Int32)) C dX1_leastSet_27 (by decide) ?_
    cases h
    exact G.iret C hr dX1_leastSet_28
  · have h := it_f h hc
    refine G.iload_n C 0 dX1_leastSet_18 rfl rfl ?_
    refine G.aload_n C 1 dX1_leastSet_19 rfl rfl ?_
    refine G.getR (k := 4) C k_X1 (sc_24 hE) rfl (by decide) tg_250 dX1_leastSet_20 ?_
    refine G.alen (v := (130 : Int32)) C (sc_29 hE) rfl (by decide) dX1_leastSet_23 ?_
    refine G.icmp_lt (tgt := 29) C dX1_leastSet_24 (by decide) (fun hc => ?_) (fun hc => ?_)
    · have h := it_t h hc
      refine G.aload_n C 1 dX1_leastSet_29 rfl rfl ?_
      refine G.getR (k := 4) C k_X1 (sc_24 hE) rfl (by decide) tg_250 dX1_leastSet_30 ?_
      refine G.iload_n C 0 dX1_leastSet_33 rfl rfl ?_
      obtain ⟨hg_2, h⟩ := gd_ex h
      refine G.aI (j := ix x3_1) C (sc_29 hE) hg_2 rfl dX1_leastSet_34 ?_
      refine G.bipush (v := (-2 : Int32)) C dX1_leastSet_35 (by decide) ?_
      refine G.icmp_ne (tgt := 56) C dX1_leastSet_37 (by decide) (fun hc => ?_) (fun hc => ?_)
      · have h := it_f h hc
        refine G.aload_n C 1 dX1_leastSet_56 rfl rfl ?_
        refine G.getR (k := 4) C k_X1 (sc_24 hE) rfl (by decide) tg_250 dX1_leastSet_57 ?_
        refine G.iload_n C 0 dX1_leastSet_60 rfl rfl ?_
        obtain ⟨hg_3, h⟩ := gd_ex h
        refine G.aI (j := ix x3_1) C (sc_29 hE) hg_3 rfl dX1_leastSet_61 ?_
        cases h
        exact G.iret C hr dX1_leastSet_62
      · have h := it_t h hc
        refine G.aload_n C 1 dX1_leastSet_40 rfl rfl ?_
        refine G.iload_n C 2 dX1_leastSet_41 rfl rfl ?_
        refine G.iload_n C 3 dX1_leastSet_42 rfl rfl ?_
        obtain ⟨M_5, hv_4, h⟩ := bd_ex h
        refine G.callV (rest := []) C (s_X1_layServing_24 hE  hv_4) ⟨tg_987, tg_94, ok_X1_layServing, Nat.le_of_ble_eq_true rfl, Nat.le_of_ble_eq_true rfl⟩ tg_984 tg_986 tg_24 (sc_24 hE) rfl rfl (Nat.le_of_ble_eq_true rfl) dX1_leastSet_43 ⟨Nat.le_refl 0, Nat.le_refl 0⟩ ?_
        refine G.aload_n C 1 dX1_leastSet_46 rfl rfl ?_
        refine G.getR (k := 4) C k_X1 (sc_24 hE) rfl (by decide) tg_250 dX1_leastSet_47 ?_
        refine G.iload_n C 0 dX1_leastSet_50 rfl rfl ?_
        refine G.aload_n C 1 dX1_leastSet_51 rfl rfl ?_
        obtain ⟨v_7, hv_6, h⟩ := bd_ex h
        refine G.callV (rest := [.int x3_1, .ref (eA E 29)]) C (s_X1_findLeastSet_24 hE  hv_6) ⟨tg_992, tg_94, ok_X1_findLeastSet, Nat.le_of_ble_eq_true rfl, Nat.le_of_ble_eq_true rfl⟩ tg_989 tg_991 tg_25 (sc_24 hE) rfl rfl (Nat.le_of_ble_eq_true rfl) dX1_leastSet_52 ⟨Nat.le_refl 0, Nat.le_refl 0⟩ ?_
        obtain ⟨hg_8, h⟩ := gd_ex h
        obtain ⟨M_9, eM_9, h⟩ := ltv_ex h
        refine G.sI (j := (ix x3_1)) C (sc_29 hE) hg_8 rfl dX1_leastSet_55 eM_9 ?_
        refine G.aload_n C 1 dX1_leastSet_56 rfl rfl ?_
        refine G.getR (k := 4) C k_X1 (sc_24 hE) rfl (by decide) tg_250 dX1_leastSet_57 ?_
        refine G.iload_n C 0 dX1_leastSet_60 rfl rfl ?_
        obtain ⟨hg_10, h⟩ := gd_ex h
        refine G.aI (j := ix x3_1) C (sc_29 hE) hg_10 rfl dX1_leastSet_61 ?_
        cases h
        exact G.iret C hr dX1_leastSet_62
    · have h := it_f h hc
      refine G.iconst (v := (0 : Int32)) C dX1_leastSet_27 (by decide) ?_
      cases h
      exact G.iret C hr dX1_leastSet_28
def bb_X1_leastSet_24_0 (x1 : Int32) (x2 : Int32) (M : Mm) : Option (Int32 × Mm) := if x2 = 0 then (bb_X1_leastSet_24_12 x1 x2 ((2 : Int32) * x1) (0 : Int32) M) else (bb_X1_leastSet_24_12 x1 x2 ((2 : Int32) * x1) (1 : Int32) M)
set_option maxHeartbeats 4000000 in
set_option maxRecDepth 100000 in
theorem gb_X1_leastSet_24_0  {x1 : Int32} {x2 : Int32} {M : Mm} {v : Int32} {M' : Mm} (hE : Has shC (eH E)) (C : Cx RX1 cX1_leastSet 4 p (rmD 22) s m args meth c E) (hr : meth.sig.returnType = (some .int)) (h : bb_X1_leastSet_24_0 x1 x2 M = some (v, M')) : G p l e (rmD 22) s m args below meth c E 4 0 0 (QR below args s E 0 0 (some (.int v)) M') 0 [(0, .ref (eA E 24)), (1, .int x1), (2, .int x2)] [] M := by
  unfold bb_X1_leastSet_24_0 at h
  refine G.iconst (v := (2 : Int32)) C dX1_leastSet_0 (by decide) ?_
  refine G.iload_n C 1 dX1_leastSet_1 rfl rfl ?_
  refine G.imul C dX1_leastSet_2 ?_
  refine G.iload_n C 2 dX1_leastSet_3 rfl rfl ?_
  refine G.if_eq (tgt := 11) C dX1_leastSet_4 (by decide) (fun hc => ?_) (fun hc => ?_)
  · have h := it_t h hc
    refine G.iconst (v := (0 : Int32)) C dX1_leastSet_11 (by decide) ?_
    exact G.sub [0, 1, 2] rfl (gb_X1_leastSet_24_12 hE C hr  h)
  · have h := it_f h hc
    refine G.iconst (v := (1 : Int32)) C dX1_leastSet_7 (by decide) ?_
    refine G.goto (tgt := 12) C dX1_leastSet_8 (by decide) ?_
    exact G.sub [0, 1, 2] rfl (gb_X1_leastSet_24_12 hE C hr  h)
def f_X1_leastSet_24 (x1 : Int32) (x2 : Int32) (M : Mm) : Option (Int32 × Mm) := bb_X1_leastSet_24_0 x1 x2 M
theorem s_X1_leastSet_24 {l : Launch} {E : Ev} {x1 : Int32} {x2 : Int32} {M : Mm} {v : Int32} {M' : Mm} (hE : Has shC (eH E)) (h : f_X1_leastSet_24 x1 x2 M = some (v, M')) : MetA l yX1_leastSet cX1_leastSet 4 (some .int) 22 E [.ref (eA E 24), .int x1, .int x2] M (some (.int v)) M' := by
  refine MetA.of (by decide +kernel) (Nat.le_of_ble_eq_true rfl) ?_
  intro p e s m below meth c C hr hnm
  exact G.sub [0, 1, 2] rfl (gb_X1_leastSet_24_0 hE C hr  h)
def bb_X1_serverOf_24_11 (k_11 : Int32 → Int32 → Int32 → Int32 → Int32 → Mm → Option (Int32 × Mm)) (x1 : Int32) (x2 : Int32) (x3 : Int32) (x4 : Int32) (x5 : Int32) (M : Mm) : Option (Int32 × Mm) := if (M.1 24 5) ≤ x5 then (some ((-1 : Int32), M)) else (if (x4 &&& (shI (1 : Int32) x5)) = 0 then (ltv (x5 + (1 : Int32)) fun x5_4 => k_11 x1 x2 x3 x4 x5_4 M) else (bd (f_X1_apartOf_24 x5 x1 x3 M) fun v_6 => if x2 < v_6 then (ltv (x5 + (1 : Int32)) fun x5_7 => k_11 x1 x2 x3 x4 x5_7 M) else (some (x5, M))))
set_option maxHeartbeats 4000000 in
set_option maxRecDepth 100000 in
theorem gb_X1_serverOf_24_11  {k_11 : Int32 → Int32 → Int32 → Int32 → Int32 → Mm → Option (Int32 × Mm)} {x1 : Int32} {x2 : Int32} {x3 : Int32} {x4 : Int32} {x5 : Int32} {M : Mm} {v : Int32} {M' : Mm} (hE : Has shC (eH E)) (C : Cx RX1 cX1_serverOf 6 p (rmD 23) s m args meth c E) (hr : meth.sig.returnType = (some .int)) (hk_11 : ∀ (x1 : Int32) (x2 : Int32) (x3 : Int32) (x4 : Int32) (x5 : Int32) (M : Mm), k_11 x1 x2 x3 x4 x5 M = some (v, M') → G p l e (rmD 23) s m args below meth c E 6 0 0 (QR below args s E 0 0 (some (.int v)) M') 11 [(0, .ref (eA E 24)), (1, .int x1), (2, .int x2), (3, .int x3), (4, .int x4), (5, .int x5)] [] M) (h : bb_X1_serverOf_24_11 k_11 x1 x2 x3 x4 x5 M = some (v, M')) : G p l e (rmD 23) s m args below meth c E 6 0 0 (QR below args s E 0 0 (some (.int v)) M') 11 [(0, .ref (eA E 24)), (1, .int x1), (2, .int x2), (3, .int x3), (4, .int x4), (5, .int x5)] [] M := by
  unfold bb_X1_serverOf_24_11 at h
  refine G.iload C 5 dX1_serverOf_11 rfl ?_
  refine G.aload_n C 0 dX1_serverOf_13 rfl rfl ?_
  refine G.getI (k := 5) C k_X1 (sc_24 hE) rfl (by decide) tg_251 dX1_serverOf_14 ?_
  refine G.icmp_ge (tgt := 51) C dX1_serverOf_17 (by decide) (fun hc => ?_) (fun hc => ?_)
  · have h := it_t h hc
    refine G.iconst (v := (-1 : Int32)) C dX1_serverOf_51 (by decide) ?_
    cases h
    exact G.iret C hr dX1_serverOf_52
  · have h := it_f h hc
    refine G.iload C 4 dX1_serverOf_20 rfl ?_
    refine G.iconst (v := (1 : Int32)) C dX1_serverOf_22 (by decide) ?_
    refine G.iload C 5 dX1_serverOf_23 rfl ?_
    refine G.isl C dX1_serverOf_25 ?_
    refine G.iand C dX1_serverOf_26 ?_
    refine G.if_eq (tgt := 45) C dX1_serverOf_27 (by decide) (fun hc => ?_) (fun hc => ?_)
    · have h := it_t h hc
      obtain ⟨x5_4, ex5_4, h⟩ := ltv_ex h
      refine G.iinc (L' := [(5, .int x5_4), (0, .ref (eA E 24)), (1, .int x1), (2, .int x2), (3, .int x3), (4, .int x4)]) C 5 dX1_serverOf_45 rfl (ex5_4.trans rfl) (by decide) rfl ?_
      refine G.goto (tgt := 11) C dX1_serverOf_48 (by decide) ?_
      exact G.sub [1, 2, 3, 4, 5, 0] rfl (hk_11 _ _ _ _ _ _  h)
    · have h := it_f h hc
      refine G.aload_n C 0 dX1_serverOf_30 rfl rfl ?_
      refine G.iload C 5 dX1_serverOf_31 rfl ?_
      refine G.iload_n C 1 dX1_serverOf_33 rfl rfl ?_
      refine G.iload_n C 3 dX1_serverOf_34 rfl rfl ?_
      obtain ⟨v_6, hv_5, h⟩ := bd_ex h
      refine G.callV (rest := []) C (s_X1_apartOf_24 hE  hv_5) ⟨tg_968, tg_94, ok_X1_apartOf, Nat.le_of_ble_eq_true rfl, Nat.le_of_ble_eq_true rfl⟩ tg_988 tg_966 tg_967 (sc_24 hE) rfl rfl (Nat.le_of_ble_eq_true rfl) dX1_serverOf_35 ⟨Nat.le_refl 0, Nat.le_refl 0⟩ ?_
      refine G.iload_n C 2 dX1_serverOf_38 rfl rfl ?_
      refine G.icmp_gt (tgt := 45) C dX1_serverOf_39 (by decide) (fun hc => ?_) (fun hc => ?_)
      · have h := it_t h hc
        obtain ⟨x5_7, ex5_7, h⟩ := ltv_ex h
        refine G.iinc (L' := [(5, .int x5_7), (0, .ref (eA E 24)), (1, .int x1), (2, .int x2), (3, .int x3), (4, .int x4)]) C 5 dX1_serverOf_45 rfl (ex5_7.trans rfl) (by decide) rfl ?_
        refine G.goto (tgt := 11) C dX1_serverOf_48 (by decide) ?_
        exact G.sub [1, 2, 3, 4, 5, 0] rfl (hk_11 _ _ _ _ _ _  h)
      · have h := it_f h hc
        refine G.iload C 5 dX1_serverOf_42 rfl ?_
        cases h
        exact G.iret C hr dX1_serverOf_44
def b_X1_serverOf_24_11 : Nat → Int32 → Int32 → Int32 → Int32 → Int32 → Mm → Option (Int32 × Mm)
  | 0, _, _, _, _, _, _ => none
  | n + 1, x1, x2, x3, x4, x5, M => bb_X1_serverOf_24_11 (b_X1_serverOf_24_11 n) x1 x2 x3 x4 x5 M
set_option maxHeartbeats 4000000 in
theorem g_X1_serverOf_24_11  {n : Nat} {x1 : Int32} {x2 : Int32} {x3 : Int32} {x4 : Int32} {x5 : Int32} {M : Mm} {v : Int32} {M' : Mm} (hE : Has shC (eH E)) (C : Cx RX1 cX1_serverOf 6 p (rmD 23) s m args meth c E) (hr : meth.sig.returnType = (some .int)) (h : b_X1_serverOf_24_11 n x1 x2 x3 x4 x5 M = some (v, M')) : G p l e (rmD 23) s m args below meth c E 6 0 0 (QR below args s E 0 0 (some (.int v)) M') 11 [(0, .ref (eA E 24)), (1, .int x1), (2, .int x2), (3, .int x3), (4, .int x4), (5, .int x5)] [] M := by
  induction n generalizing x1 x2 x3 x4 x5 M with
  | zero => cases h
  | succ n ih => exact gb_X1_serverOf_24_11 hE C hr (fun _ _ _ _ _ _ => ih)  h
def bb_X1_serverOf_24_0 (x1 : Int32) (x2 : Int32) (x3 : Int32) (M : Mm) : Option (Int32 × Mm) := bd2 (f_X1_leastSet_24 x2 x3 M) fun v_3 M_2 => b_X1_serverOf_24_11 FU x1 x2 x3 v_3 (0 : Int32) M_2
set_option maxHeartbeats 4000000 in
set_option maxRecDepth 100000 in
theorem gb_X1_serverOf_24_0  {x1 : Int32} {x2 : Int32} {x3 : Int32} {M : Mm} {v : Int32} {M' : Mm} (hE : Has shC (eH E)) (C : Cx RX1 cX1_serverOf 6 p (rmD 23) s m args meth c E) (hr : meth.sig.returnType = (some .int)) (h : bb_X1_serverOf_24_0 x1 x2 x3 M = some (v, M')) : G p l e (rmD 23) s m args below meth c E 6 0 0 (QR below args s E 0 0 (some (.int v)) M') 0 [(0, .ref (eA E 24)), (1, .int x1), (2, .int x2), (3, .int x3)] [] M := by
  unfold bb_X1_serverOf_24_0 at h
  refine G.aload_n C 0 dX1_serverOf_0 rfl rfl ?_
  refine G.iload_n C 2 dX1_serverOf_1 rfl rfl ?_
  refine G.iload_n C 3 dX1_serverOf_2 rfl rfl ?_
  obtain ⟨v_3, M_2, hv_1, h⟩ := bd2_ex h
  refine G.callV (rest := []) C (s_X1_leastSet_24 hE  hv_1) ⟨tg_983, tg_94, ok_X1_leastSet, Nat.le_of_ble_eq_true rfl, Nat.le_of_ble_eq_true rfl⟩ tg_1013 tg_981 tg_982 (sc_24 hE) rfl rfl (Nat.le_of_ble_eq_true rfl) dX1_serverOf_3 ⟨Nat.le_refl 0, Nat.le_refl 0⟩ ?_
  refine G.istore (L' := [(4, .int v_3), (0, .ref (eA E 24)), (1, .int x1), (2, .int x2), (3, .int x3)]) C dX1_serverOf_6 rfl (by decide) rfl ?_
  refine G.iconst (v := (0 : Int32)) C dX1_serverOf_8 (by decide) ?_
  refine G.istore (L' := [(5, .int (0 : Int32)), (4, .int v_3), (0, .ref (eA E 24)), (1, .int x1), (2, .int x2), (3, .int x3)]) C dX1_serverOf_9 rfl (by decide) rfl ?_
  exact G.sub [2, 3, 4, 5, 1, 0] rfl (g_X1_serverOf_24_11 hE C hr  h)
def f_X1_serverOf_24 (x1 : Int32) (x2 : Int32) (x3 : Int32) (M : Mm) : Option (Int32 × Mm) := bb_X1_serverOf_24_0 x1 x2 x3 M
theorem s_X1_serverOf_24 {l : Launch} {E : Ev} {x1 : Int32} {x2 : Int32} {x3 : Int32} {M : Mm} {v : Int32} {M' : Mm} (hE : Has shC (eH E)) (h : f_X1_serverOf_24 x1 x2 x3 M = some (v, M')) : MetA l yX1_serverOf cX1_serverOf 6 (some .int) 23 E [.ref (eA E 24), .int x1, .int x2, .int x3] M (some (.int v)) M' := by
  refine MetA.of (by decide +kernel) (Nat.le_of_ble_eq_true rfl) ?_
  intro p e s m below meth c C hr hnm
  exact G.sub [0, 1, 2, 3] rfl (gb_X1_serverOf_24_0 hE C hr  h)
def bb_X4_turnsInto_26_29 (k_29 : Int32 → Int64 → Int64 → Int32 → Mm → Option Mm) (x3 : Int32) (x4 : Int64) (x6 : Int64) (x8 : Int32) (M : Mm) : Option Mm := if (4 : Int32) ≤ x8 then (some M) else (bd (f_X4_toCorner x4) fun v_4 => gd (inb (((8 : Int32) * x3) + x8) 8) (ltv (wJ M 26 (ix (((8 : Int32) * x3) + x8)) v_4) fun M_6 => bd (f_X4_toCorner x6) fun v_8 => gd (inb ((((8 : Int32) * x3) + (4 : Int32)) + x8) 8) (ltv (wJ M_6 26 (ix ((((8 : Int32) * x3) + (4 : Int32)) + x8)) v_8) fun M_10 => bd (f_X4_quarterTurned x4) fun v_12 => bd (f_X4_quarterTurned x6) fun v_14 => ltv (x8 + (1 : Int32)) fun x8_15 => k_29 x3 v_12 v_14 x8_15 M_10)))
set_option maxHeartbeats 4000000 in
set_option maxRecDepth 100000 in
theorem gb_X4_turnsInto_26_29  {k_29 : Int32 → Int64 → Int64 → Int32 → Mm → Option Mm} {x3 : Int32} {x4 : Int64} {x6 : Int64} {x8 : Int32} {M : Mm} {M' : Mm} (hE : Has shC (eH E)) (C : Cx RX4 cX4_turnsInto 9 p (rmD 3) s m args meth c E) (hr : meth.sig.returnType = none) (hk_29 : ∀ (x3 : Int32) (x4 : Int64) (x6 : Int64) (x8 : Int32) (M : Mm), k_29 x3 x4 x6 x8 M = some M' → G p l e (rmD 3) s m args below meth c E 9 0 0 (QR below args s E 0 0 none M') 29 [(2, .ref (eA E 26)), (3, .int x3), (4, .long x4), (6, .long x6), (8, .int x8)] [] M) (h : bb_X4_turnsInto_26_29 k_29 x3 x4 x6 x8 M = some M') : G p l e (rmD 3) s m args below meth c E 9 0 0 (QR below args s E 0 0 none M') 29 [(2, .ref (eA E 26)), (3, .int x3), (4, .long x4), (6, .long x6), (8, .int x8)] [] M := by
  unfold bb_X4_turnsInto_26_29 at h
  refine G.iload C 4 dX4_turnsInto_29 rfl ?_
  refine G.iconst (v := (4 : Int32)) C dX4_turnsInto_31 (by decide) ?_
  refine G.icmp_ge (tgt := 85) C dX4_turnsInto_32 (by decide) (fun hc => ?_) (fun hc => ?_)
  · have h := it_t h hc
    cases h
    exact G.vret C hr dX4_turnsInto_85
  · have h := it_f h hc
    refine G.aload_n C 0 dX4_turnsInto_35 rfl rfl ?_
    refine G.bipush (v := (8 : Int32)) C dX4_turnsInto_36 (by decide) ?_
    refine G.iload_n C 1 dX4_turnsInto_38 rfl rfl ?_
    refine G.imul C dX4_turnsInto_39 ?_
    refine G.iload C 4 dX4_turnsInto_40 rfl ?_
    refine G.iadd C dX4_turnsInto_42 ?_
    refine G.lload C 2 dX4_turnsInto_43 rfl ?_
    obtain ⟨v_4, hv_3, h⟩ := bd_ex h
    refine G.callS (rest := [.int (((8 : Int32) * x3) + x8), .ref (eA E 26)]) C (s_X4_toCorner  hv_3) ⟨tg_434, tg_101, ok_X4_toCorner, Nat.le_of_ble_eq_true rfl, Nat.le_of_ble_eq_true rfl⟩ tg_432 tg_433 rfl (Nat.le_of_ble_eq_true rfl) dX4_turnsInto_45 ⟨Nat.le_refl 0, Nat.le_refl 0⟩ ?_
    obtain ⟨hg_5, h⟩ := gd_ex h
    obtain ⟨M_6, eM_6, h⟩ := ltv_ex h
    refine G.sJ (j := (ix (((8 : Int32) * x3) + x8))) C (sc_26 hE) hg_5 rfl dX4_turnsInto_48 eM_6 ?_
    refine G.aload_n C 0 dX4_turnsInto_49 rfl rfl ?_
    refine G.bipush (v := (8 : Int32)) C dX4_turnsInto_50 (by decide) ?_
    refine G.iload_n C 1 dX4_turnsInto_52 rfl rfl ?_
    refine G.imul C dX4_turnsInto_53 ?_
    refine G.iconst (v := (4 : Int32)) C dX4_turnsInto_54 (by decide) ?_
    refine G.iadd C dX4_turnsInto_55 ?_
    refine G.iload C 4 dX4_turnsInto_56 rfl ?_
    refine G.iadd C dX4_turnsInto_58 ?_
    refine G.lload C 3 dX4_turnsInto_59 rfl ?_
    obtain ⟨v_8, hv_7, h⟩ := bd_ex h
    refine G.callS (rest := [.int ((((8 : Int32) * x3) + (4 : Int32)) + x8), .ref (eA E 26)]) C (s_X4_toCorner  hv_7) ⟨tg_434, tg_101, ok_X4_toCorner, Nat.le_of_ble_eq_true rfl, Nat.le_of_ble_eq_true rfl⟩ tg_432 tg_433 rfl (Nat.le_of_ble_eq_true rfl) dX4_turnsInto_61 ⟨Nat.le_refl 0, Nat.le_refl 0⟩ ?_
    obtain ⟨hg_9, h⟩ := gd_ex h
    obtain ⟨M_10, eM_10, h⟩ := ltv_ex h
    refine G.sJ (j := (ix ((((8 : Int32) * x3) + (4 : Int32)) + x8))) C (sc_26 hE) hg_9 rfl dX4_turnsInto_64 eM_10 ?_
    refine G.lload C 2 dX4_turnsInto_65 rfl ?_
    obtain ⟨v_12, hv_11, h⟩ := bd_ex h
    refine G.callS (rest := []) C (s_X4_quarterTurned  hv_11) ⟨tg_439, tg_101, ok_X4_quarterTurned, Nat.le_of_ble_eq_true rfl, Nat.le_of_ble_eq_true rfl⟩ tg_437 tg_438 rfl (Nat.le_of_ble_eq_true rfl) dX4_turnsInto_67 ⟨Nat.le_refl 0, Nat.le_refl 0⟩ ?_
    refine G.lstore (L' := [(4, .long v_12), (2, .ref (eA E 26)), (3, .int x3), (6, .long x6), (8, .int x8)]) C dX4_turnsInto_70 rfl (by decide) rfl ?_
    refine G.lload C 3 dX4_turnsInto_72 rfl ?_
    obtain ⟨v_14, hv_13, h⟩ := bd_ex h
    refine G.callS (rest := []) C (s_X4_quarterTurned  hv_13) ⟨tg_439, tg_101, ok_X4_quarterTurned, Nat.le_of_ble_eq_true rfl, Nat.le_of_ble_eq_true rfl⟩ tg_437 tg_438 rfl (Nat.le_of_ble_eq_true rfl) dX4_turnsInto_74 ⟨Nat.le_refl 0, Nat.le_refl 0⟩ ?_
    refine G.lstore (L' := [(6, .long v_14), (4, .long v_12), (2, .ref (eA E 26)), (3, .int x3), (8, .int x8)]) C dX4_turnsInto_77 rfl (by decide) rfl ?_
    obtain ⟨x8_15, ex8_15, h⟩ := ltv_ex h
    refine G.iinc (L' := [(8, .int x8_15), (6, .long v_14), (4, .long v_12), (2, .ref (eA E 26)), (3, .int x3)]) C 4 dX4_turnsInto_79 rfl (ex8_15.trans rfl) (by decide) rfl ?_
    refine G.goto (tgt := 29) C dX4_turnsInto_82 (by decide) ?_
    exact G.sub [3, 4, 2, 1, 0] rfl (hk_29 _ _ _ _ _  h)
def b_X4_turnsInto_26_29 : Nat → Int32 → Int64 → Int64 → Int32 → Mm → Option Mm
  | 0, _, _, _, _, _ => none
  | n + 1, x3, x4, x6, x8, M => bb_X4_turnsInto_26_29 (b_X4_turnsInto_26_29 n) x3 x4 x6 x8 M
set_option maxHeartbeats 4000000 in
theorem g_X4_turnsInto_26_29  {n : Nat} {x3 : Int32} {x4 : Int64} {x6 : Int64} {x8 : Int32} {M : Mm} {M' : Mm} (hE : Has shC (eH E)) (C : Cx RX4 cX4_turnsInto 9 p (rmD 3) s m args meth c E) (hr : meth.sig.returnType = none) (h : b_X4_turnsInto_26_29 n x3 x4 x6 x8 M = some M') : G p l e (rmD 3) s m args below meth c E 9 0 0 (QR below args s E 0 0 none M') 29 [(2, .ref (eA E 26)), (3, .int x3), (4, .long x4), (6, .long x6), (8, .int x8)] [] M := by
  induction n generalizing x3 x4 x6 x8 M with
  | zero => cases h
  | succ n ih => exact gb_X4_turnsInto_26_29 hE C hr (fun _ _ _ _ _ => ih)  h
def bb_X4_turnsInto_26_0 (x0 : Int64) (x3 : Int32) (M : Mm) : Option Mm := if x3 < 0 then (some M) else (if (((8 : Int32) * x3) + (8 : Int32)) ≤ (8 : Int32) then (bd (f_X4_mirrored x0) fun v_2 => b_X4_turnsInto_26_29 FU x3 x0 v_2 (0 : Int32) M) else (some M))
set_option maxHeartbeats 4000000 in
set_option maxRecDepth 100000 in
theorem gb_X4_turnsInto_26_0  {x0 : Int64} {x3 : Int32} {M : Mm} {M' : Mm} (hE : Has shC (eH E)) (C : Cx RX4 cX4_turnsInto 9 p (rmD 3) s m args meth c E) (hr : meth.sig.returnType = none) (h : bb_X4_turnsInto_26_0 x0 x3 M = some M') : G p l e (rmD 3) s m args below meth c E 9 0 0 (QR below args s E 0 0 none M') 0 [(0, .long x0), (2, .ref (eA E 26)), (3, .int x3)] [] M := by
  unfold bb_X4_turnsInto_26_0 at h
  refine G.iload_n C 2 dX4_turnsInto_0 rfl rfl ?_
  refine G.if_lt (tgt := 16) C dX4_turnsInto_1 (by decide) (fun hc => ?_) (fun hc => ?_)
  · have h := it_t h hc
    cases h
    exact G.vret C hr dX4_turnsInto_16
  · have h := it_f h hc
    refine G.bipush (v := (8 : Int32)) C dX4_turnsInto_4 (by decide) ?_
    refine G.iload_n C 2 dX4_turnsInto_6 rfl rfl ?_
    refine G.imul C dX4_turnsInto_7 ?_
    refine G.bipush (v := (8 : Int32)) C dX4_turnsInto_8 (by decide) ?_
    refine G.iadd C dX4_turnsInto_10 ?_
    refine G.aload_n C 1 dX4_turnsInto_11 rfl rfl ?_
    refine G.alen (v := (8 : Int32)) C (sc_26 hE) rfl (by decide) dX4_turnsInto_12 ?_
    refine G.icmp_le (tgt := 17) C dX4_turnsInto_13 (by decide) (fun hc => ?_) (fun hc => ?_)
    · have h := it_t h hc
      refine G.lload_n C 0 dX4_turnsInto_17 rfl rfl ?_
      refine G.lstore (L' := [(4, .long x0), (0, .long x0), (2, .ref (eA E 26)), (3, .int x3)]) C dX4_turnsInto_18 rfl (by decide) rfl ?_
      refine G.lload_n C 1 dX4_turnsInto_20 rfl rfl ?_
      obtain ⟨v_2, hv_1, h⟩ := bd_ex h
      refine G.callS (rest := []) C (s_X4_mirrored  hv_1) ⟨tg_428, tg_101, ok_X4_mirrored, Nat.le_of_ble_eq_true rfl, Nat.le_of_ble_eq_true rfl⟩ tg_426 tg_427 rfl (Nat.le_of_ble_eq_true rfl) dX4_turnsInto_21 ⟨Nat.le_refl 0, Nat.le_refl 0⟩ ?_
      refine G.lstore (L' := [(6, .long v_2), (4, .long x0), (0, .long x0), (2, .ref (eA E 26)), (3, .int x3)]) C dX4_turnsInto_24 rfl (by decide) rfl ?_
      refine G.iconst (v := (0 : Int32)) C dX4_turnsInto_26 (by decide) ?_
      refine G.istore (L' := [(8, .int (0 : Int32)), (6, .long v_2), (4, .long x0), (0, .long x0), (2, .ref (eA E 26)), (3, .int x3)]) C dX4_turnsInto_27 rfl (by decide) rfl ?_
      exact G.sub [4, 5, 2, 1, 0] rfl (g_X4_turnsInto_26_29 hE C hr  h)
    · have h := it_f h hc
      cases h
      exact G.vret C hr dX4_turnsInto_16
def f_X4_turnsInto_26 (x0 : Int64) (x3 : Int32) (M : Mm) : Option Mm := bb_X4_turnsInto_26_0 x0 x3 M
theorem s_X4_turnsInto_26 {l : Launch} {E : Ev} {x0 : Int64} {x3 : Int32} {M : Mm} {M' : Mm} (hE : Has shC (eH E)) (h : f_X4_turnsInto_26 x0 x3 M = some M') : MetA l yX4_turnsInto cX4_turnsInto 9 none 3 E [.long x0, .ref (eA E 26), .int x3] M none M' := by
  refine MetA.of (by decide +kernel) (Nat.le_of_ble_eq_true rfl) ?_
  intro p e s m below meth c C hr hnm
  exact G.sub [0, 1, 2] rfl (gb_X4_turnsInto_26_0 hE C hr  h)
def bb_X4_apartBy_26_20 (k_20 : Int32 → Int64 → Int32 → Int32 → Int32 → Mm → Option Int32) (x1 : Int32) (x2 : Int64) (x5 : Int32) (x6 : Int32) (x7 : Int32) (M : Mm) : Option Int32 := if x6 ≤ x7 then (some x5) else (ltv (((8 : Int32) * x1) + x7) fun x8_1 => if x8_1 < 0 then (ltv (x7 + (1 : Int32)) fun x7_2 => k_20 x1 x2 x5 x6 x7_2 M) else (if (8 : Int32) ≤ x8_1 then (ltv (x7 + (1 : Int32)) fun x7_3 => k_20 x1 x2 x5 x6 x7_3 M) else (gd (inb x8_1 8) (bd (f_J13_bitCount_95d88 ((M.2 26 (ix x8_1)) ^^^ x2)) fun v_6 => ltv (if v_6 < x5 then v_6 else x5) fun x5_7 => ltv (x7 + (1 : Int32)) fun x7_8 => k_20 x1 x2 x5_7 x6 x7_8 M))))
set_option maxHeartbeats 4000000 in
set_option maxRecDepth 100000 in
theorem gb_X4_apartBy_26_20  {k_20 : Int32 → Int64 → Int32 → Int32 → Int32 → Mm → Option Int32} {x1 : Int32} {x2 : Int64} {x5 : Int32} {x6 : Int32} {x7 : Int32} {M : Mm} {v : Int32} (hE : Has shC (eH E)) (C : Cx RX4 cX4_apartBy 9 p (rmD 2) s m args meth c E) (hr : meth.sig.returnType = (some .int)) (hk_20 : ∀ (x1 : Int32) (x2 : Int64) (x5 : Int32) (x6 : Int32) (x7 : Int32) (M : Mm), k_20 x1 x2 x5 x6 x7 M = some v → G p l e (rmD 2) s m args below meth c E 9 0 0 (QR below args s E 0 0 (some (.int v)) M) 20 [(0, .ref (eA E 26)), (1, .int x1), (2, .long x2), (5, .int x5), (6, .int x6), (7, .int x7)] [] M) (h : bb_X4_apartBy_26_20 k_20 x1 x2 x5 x6 x7 M = some v) : G p l e (rmD 2) s m args below meth c E 9 0 0 (QR below args s E 0 0 (some (.int v)) M) 20 [(0, .ref (eA E 26)), (1, .int x1), (2, .long x2), (5, .int x5), (6, .int x6), (7, .int x7)] [] M := by
  unfold bb_X4_apartBy_26_20 at h
  refine G.iload C 5 dX4_apartBy_20 rfl ?_
  refine G.iload C 4 dX4_apartBy_22 rfl ?_
  refine G.icmp_ge (tgt := 70) C dX4_apartBy_24 (by decide) (fun hc => ?_) (fun hc => ?_)
  · have h := it_t h hc
    refine G.iload C 3 dX4_apartBy_70 rfl ?_
    cases h
    exact G.iret C hr dX4_apartBy_72
  · have h := it_f h hc
    refine G.bipush (v := (8 : Int32)) C dX4_apartBy_27 (by decide) ?_
    refine G.iload_n C 1 dX4_apartBy_29 rfl rfl ?_
    refine G.imul C dX4_apartBy_30 ?_
    refine G.iload C 5 dX4_apartBy_31 rfl ?_
    refine G.iadd C dX4_apartBy_33 ?_
    obtain ⟨x8_1, ex8_1, h⟩ := ltv_ex h
    refine G.istore (L' := [(8, .int x8_1), (0, .ref (eA E 26)), (1, .int x1), (2, .long x2), (5, .int x5), (6, .int x6), (7, .int x7)]) C dX4_apartBy_34 ex8_1 (by decide) rfl ?_
    refine G.iload C 0 dX4_apartBy_36 rfl ?_
    refine G.if_lt (tgt := 64) C dX4_apartBy_38 (by decide) (fun hc => ?_) (fun hc => ?_)
    · have h := it_t h hc
      obtain ⟨x7_2, ex7_2, h⟩ := ltv_ex h
      refine G.iinc (L' := [(7, .int x7_2), (8, .int x8_1), (0, .ref (eA E 26)), (1, .int x1), (2, .long x2), (5, .int x5), (6, .int x6)]) C 6 dX4_apartBy_64 rfl (ex7_2.trans rfl) (by decide) rfl ?_
      refine G.goto (tgt := 20) C dX4_apartBy_67 (by decide) ?_
      exact G.sub [2, 3, 4, 5, 6, 0] rfl (hk_20 _ _ _ _ _ _  h)
    · have h := it_f h hc
      refine G.iload C 0 dX4_apartBy_41 rfl ?_
      refine G.aload_n C 1 dX4_apartBy_43 rfl rfl ?_
      refine G.alen (v := (8 : Int32)) C (sc_26 hE) rfl (by decide) dX4_apartBy_44 ?_
      refine G.icmp_ge (tgt := 64) C dX4_apartBy_45 (by decide) (fun hc => ?_) (fun hc => ?_)
      · have h := it_t h hc
        obtain ⟨x7_3, ex7_3, h⟩ := ltv_ex h
        refine G.iinc (L' := [(7, .int x7_3), (8, .int x8_1), (0, .ref (eA E 26)), (1, .int x1), (2, .long x2), (5, .int x5), (6, .int x6)]) C 6 dX4_apartBy_64 rfl (ex7_3.trans rfl) (by decide) rfl ?_
        refine G.goto (tgt := 20) C dX4_apartBy_67 (by decide) ?_
        exact G.sub [2, 3, 4, 5, 6, 0] rfl (hk_20 _ _ _ _ _ _  h)
      · have h := it_f h hc
        refine G.iload C 4 dX4_apartBy_48 rfl ?_
        refine G.aload_n C 1 dX4_apartBy_50 rfl rfl ?_
        refine G.iload C 0 dX4_apartBy_51 rfl ?_
        obtain ⟨hg_4, h⟩ := gd_ex h
        refine G.aJ (j := ix x8_1) C (sc_26 hE) hg_4 rfl dX4_apartBy_53 ?_
        refine G.lload_n C 3 dX4_apartBy_54 rfl rfl ?_
        refine G.lxor C dX4_apartBy_55 ?_
        obtain ⟨v_6, hv_5, h⟩ := bd_ex h
        refine G.callS (rest := [.int x5]) C (s_J13_bitCount_95d88  hv_5) ⟨tg_457, tg_102, ok_J13_bitCount_95d88, Nat.le_of_ble_eq_true rfl, Nat.le_of_ble_eq_true rfl⟩ tg_972 tg_456 rfl (Nat.le_of_ble_eq_true rfl) dX4_apartBy_56 ⟨Nat.le_refl 0, Nat.le_refl 0⟩ ?_
        refine G.mmin (rest := []) C tg_473 tg_421 tg_100 tg_422 ⟨Nat.le_of_ble_eq_true rfl, Nat.le_of_ble_eq_true rfl⟩ (Nat.le_of_ble_eq_true rfl) ⟨Nat.le_refl 0, Nat.le_refl 0⟩ dX4_apartBy_59 ?_
        obtain ⟨x5_7, ex5_7, h⟩ := ltv_ex h
        refine G.istore (L' := [(5, .int x5_7), (8, .int x8_1), (0, .ref (eA E 26)), (1, .int x1), (2, .long x2), (6, .int x6), (7, .int x7)]) C dX4_apartBy_62 ex5_7 (by decide) rfl ?_
        obtain ⟨x7_8, ex7_8, h⟩ := ltv_ex h
        refine G.iinc (L' := [(7, .int x7_8), (5, .int x5_7), (8, .int x8_1), (0, .ref (eA E 26)), (1, .int x1), (2, .long x2), (6, .int x6)]) C 6 dX4_apartBy_64 rfl (ex7_8.trans rfl) (by decide) rfl ?_
        refine G.goto (tgt := 20) C dX4_apartBy_67 (by decide) ?_
        exact G.sub [3, 4, 5, 1, 6, 0] rfl (hk_20 _ _ _ _ _ _  h)
def b_X4_apartBy_26_20 : Nat → Int32 → Int64 → Int32 → Int32 → Int32 → Mm → Option Int32
  | 0, _, _, _, _, _, _ => none
  | n + 1, x1, x2, x5, x6, x7, M => bb_X4_apartBy_26_20 (b_X4_apartBy_26_20 n) x1 x2 x5 x6 x7 M
set_option maxHeartbeats 4000000 in
theorem g_X4_apartBy_26_20  {n : Nat} {x1 : Int32} {x2 : Int64} {x5 : Int32} {x6 : Int32} {x7 : Int32} {M : Mm} {v : Int32} (hE : Has shC (eH E)) (C : Cx RX4 cX4_apartBy 9 p (rmD 2) s m args meth c E) (hr : meth.sig.returnType = (some .int)) (h : b_X4_apartBy_26_20 n x1 x2 x5 x6 x7 M = some v) : G p l e (rmD 2) s m args below meth c E 9 0 0 (QR below args s E 0 0 (some (.int v)) M) 20 [(0, .ref (eA E 26)), (1, .int x1), (2, .long x2), (5, .int x5), (6, .int x6), (7, .int x7)] [] M := by
  induction n generalizing x1 x2 x5 x6 x7 M with
  | zero => cases h
  | succ n ih => exact gb_X4_apartBy_26_20 hE C hr (fun _ _ _ _ _ _ => ih)  h
def bb_X4_apartBy_26_0 (x1 : Int32) (x2 : Int64) (x4 : Int32) (M : Mm) : Option Int32 := if x4 = 0 then (b_X4_apartBy_26_20 FU x1 x2 (64 : Int32) (4 : Int32) (0 : Int32) M) else (b_X4_apartBy_26_20 FU x1 x2 (64 : Int32) (8 : Int32) (0 : Int32) M)
set_option maxHeartbeats 4000000 in
set_option maxRecDepth 100000 in
theorem gb_X4_apartBy_26_0  {x1 : Int32} {x2 : Int64} {x4 : Int32} {M : Mm} {v : Int32} (hE : Has shC (eH E)) (C : Cx RX4 cX4_apartBy 9 p (rmD 2) s m args meth c E) (hr : meth.sig.returnType = (some .int)) (h : bb_X4_apartBy_26_0 x1 x2 x4 M = some v) : G p l e (rmD 2) s m args below meth c E 9 0 0 (QR below args s E 0 0 (some (.int v)) M) 0 [(0, .ref (eA E 26)), (1, .int x1), (2, .long x2), (4, .int x4)] [] M := by
  unfold bb_X4_apartBy_26_0 at h
  refine G.bipush (v := (64 : Int32)) C dX4_apartBy_0 (by decide) ?_
  refine G.istore (L' := [(5, .int (64 : Int32)), (0, .ref (eA E 26)), (1, .int x1), (2, .long x2), (4, .int x4)]) C dX4_apartBy_2 rfl (by decide) rfl ?_
  refine G.iload C 4 dX4_apartBy_4 rfl ?_
  refine G.if_eq (tgt := 14) C dX4_apartBy_6 (by decide) (fun hc => ?_) (fun hc => ?_)
  · have h := it_t h hc
    refine G.iconst (v := (4 : Int32)) C dX4_apartBy_14 (by decide) ?_
    refine G.istore (L' := [(6, .int (4 : Int32)), (5, .int (64 : Int32)), (0, .ref (eA E 26)), (1, .int x1), (2, .long x2), (4, .int x4)]) C dX4_apartBy_15 rfl (by decide) rfl ?_
    refine G.iconst (v := (0 : Int32)) C dX4_apartBy_17 (by decide) ?_
    refine G.istore (L' := [(7, .int (0 : Int32)), (6, .int (4 : Int32)), (5, .int (64 : Int32)), (0, .ref (eA E 26)), (1, .int x1), (2, .long x2), (4, .int x4)]) C dX4_apartBy_18 rfl (by decide) rfl ?_
    exact G.sub [3, 4, 5, 2, 1, 0] rfl (g_X4_apartBy_26_20 hE C hr  h)
  · have h := it_f h hc
    refine G.bipush (v := (8 : Int32)) C dX4_apartBy_9 (by decide) ?_
    refine G.goto (tgt := 15) C dX4_apartBy_11 (by decide) ?_
    refine G.istore (L' := [(6, .int (8 : Int32)), (5, .int (64 : Int32)), (0, .ref (eA E 26)), (1, .int x1), (2, .long x2), (4, .int x4)]) C dX4_apartBy_15 rfl (by decide) rfl ?_
    refine G.iconst (v := (0 : Int32)) C dX4_apartBy_17 (by decide) ?_
    refine G.istore (L' := [(7, .int (0 : Int32)), (6, .int (8 : Int32)), (5, .int (64 : Int32)), (0, .ref (eA E 26)), (1, .int x1), (2, .long x2), (4, .int x4)]) C dX4_apartBy_18 rfl (by decide) rfl ?_
    exact G.sub [3, 4, 5, 2, 1, 0] rfl (g_X4_apartBy_26_20 hE C hr  h)
def f_X4_apartBy_26 (x1 : Int32) (x2 : Int64) (x4 : Int32) (M : Mm) : Option Int32 := bb_X4_apartBy_26_0 x1 x2 x4 M
theorem s_X4_apartBy_26 {l : Launch} {E : Ev} {x1 : Int32} {x2 : Int64} {x4 : Int32} {M : Mm} {v : Int32} (hE : Has shC (eH E)) (h : f_X4_apartBy_26 x1 x2 x4 M = some v) : MetA l yX4_apartBy cX4_apartBy 9 (some .int) 2 E [.ref (eA E 26), .int x1, .long x2, .int x4] M (some (.int v)) M := by
  refine MetA.of (by decide +kernel) (Nat.le_of_ble_eq_true rfl) ?_
  intro p e s m below meth c C hr hnm
  exact G.sub [0, 1, 2, 3] rfl (gb_X4_apartBy_26_0 hE C hr  h)
def bb_X1_hasLesserTwin_24_11_16 (k_16 : Int32 → Int32 → Int32 → Mm → Option (Int32 × Mm)) (x2 : Int32) (x3 : Int32) (x4 : Int32) (M : Mm) : Option (Int32 × Mm) := if x2 ≤ x4 then (some ((0 : Int32), M)) else (bd (f_X7_inkOf_11 x4 M) fun v_6 => bd (f_X4_toCorner v_6) fun v_8 => if v_8 = (0 : Int64) then (ltv (x4 + (1 : Int32)) fun x4_9 => k_16 x2 x3 x4_9 M) else (bd (f_X4_apartBy_26 (0 : Int32) v_8 x3 M) fun v_11 => if v_11 = 0 then (some ((1 : Int32), M)) else (ltv (x4 + (1 : Int32)) fun x4_12 => k_16 x2 x3 x4_12 M)))
set_option maxHeartbeats 4000000 in
set_option maxRecDepth 100000 in
theorem gb_X1_hasLesserTwin_24_11_16  {k_16 : Int32 → Int32 → Int32 → Mm → Option (Int32 × Mm)} {x2 : Int32} {x3 : Int32} {x4 : Int32} {M : Mm} {v : Int32} {M' : Mm} (hE : Has shC (eH E)) (C : Cx RX1 cX1_hasLesserTwin 7 p (rmD 4) s m args meth c E) (hr : meth.sig.returnType = (some .boolean)) (hk_16 : ∀ (x2 : Int32) (x3 : Int32) (x4 : Int32) (M : Mm), k_16 x2 x3 x4 M = some (v, M') → G p l e (rmD 4) s m args below meth c E 7 0 0 (QR below args s E 0 0 (some (.int v)) M') 16 [(0, .ref (eA E 24)), (1, .ref (eA E 11)), (2, .int x2), (3, .int x3), (4, .int x4)] [] M) (h : bb_X1_hasLesserTwin_24_11_16 k_16 x2 x3 x4 M = some (v, M')) : G p l e (rmD 4) s m args below meth c E 7 0 0 (QR below args s E 0 0 (some (.int v)) M') 16 [(0, .ref (eA E 24)), (1, .ref (eA E 11)), (2, .int x2), (3, .int x3), (4, .int x4)] [] M := by
  unfold bb_X1_hasLesserTwin_24_11_16 at h
  refine G.iload C 4 dX1_hasLesserTwin_16 rfl ?_
  refine G.iload_n C 2 dX1_hasLesserTwin_18 rfl rfl ?_
  refine G.icmp_ge (tgt := 62) C dX1_hasLesserTwin_19 (by decide) (fun hc => ?_) (fun hc => ?_)
  · have h := it_t h hc
    refine G.iconst (v := (0 : Int32)) C dX1_hasLesserTwin_62 (by decide) ?_
    cases h
    exact G.zret C hr rfl dX1_hasLesserTwin_63
  · have h := it_f h hc
    refine G.aload_n C 1 dX1_hasLesserTwin_22 rfl rfl ?_
    refine G.iload C 4 dX1_hasLesserTwin_23 rfl ?_
    obtain ⟨v_6, hv_5, h⟩ := bd_ex h
    refine G.callV (rest := []) C (s_X7_inkOf_11 hE  hv_5) ⟨tg_454, tg_92, ok_X7_inkOf, Nat.le_of_ble_eq_true rfl, Nat.le_of_ble_eq_true rfl⟩ tg_1404 tg_452 tg_453 (sc_11 hE) rfl rfl (Nat.le_of_ble_eq_true rfl) dX1_hasLesserTwin_25 ⟨Nat.le_refl 0, Nat.le_refl 0⟩ ?_
    obtain ⟨v_8, hv_7, h⟩ := bd_ex h
    refine G.callS (rest := []) C (s_X4_toCorner  hv_7) ⟨tg_434, tg_101, ok_X4_toCorner, Nat.le_of_ble_eq_true rfl, Nat.le_of_ble_eq_true rfl⟩ tg_1391 tg_433 rfl (Nat.le_of_ble_eq_true rfl) dX1_hasLesserTwin_28 ⟨Nat.le_refl 0, Nat.le_refl 0⟩ ?_
    refine G.lstore (L' := [(5, .long v_8), (0, .ref (eA E 24)), (1, .ref (eA E 11)), (2, .int x2), (3, .int x3), (4, .int x4)]) C dX1_hasLesserTwin_31 rfl (by decide) rfl ?_
    refine G.lload C 0 dX1_hasLesserTwin_33 rfl ?_
    refine G.lconst (v := (0 : Int64)) C dX1_hasLesserTwin_35 (by decide) ?_
    refine G.lcmp C dX1_hasLesserTwin_36 (G.if_eq (tgt := 56) C dX1_hasLesserTwin_37 (by decide) (fun hc => ?_) (fun hc => ?_))
    · have h := it_t h (lgc_eq.mp hc)
      obtain ⟨x4_9, ex4_9, h⟩ := ltv_ex h
      refine G.iinc (L' := [(4, .int x4_9), (5, .long v_8), (0, .ref (eA E 24)), (1, .ref (eA E 11)), (2, .int x2), (3, .int x3)]) C 5 dX1_hasLesserTwin_56 rfl (ex4_9.trans rfl) (by decide) rfl ?_
      refine G.goto (tgt := 16) C dX1_hasLesserTwin_59 (by decide) ?_
      exact G.sub [2, 3, 4, 5, 0] rfl (hk_16 _ _ _ _  h)
    · have h := it_f h ((not_congr lgc_eq).mp hc)
      refine G.aload_n C 1 dX1_hasLesserTwin_40 rfl rfl ?_
      refine G.getR (k := 1) C k_X1 (sc_24 hE) rfl (by decide) tg_247 dX1_hasLesserTwin_41 ?_
      refine G.iconst (v := (0 : Int32)) C dX1_hasLesserTwin_44 (by decide) ?_
      refine G.lload C 0 dX1_hasLesserTwin_45 rfl ?_
      refine G.iload_n C 4 dX1_hasLesserTwin_47 rfl rfl ?_
      obtain ⟨v_11, hv_10, h⟩ := bd_ex h
      refine G.callS (rest := []) C (s_X4_apartBy_26 hE  hv_10) ⟨tg_971, tg_101, ok_X4_apartBy, Nat.le_of_ble_eq_true rfl, Nat.le_of_ble_eq_true rfl⟩ tg_969 tg_970 rfl (Nat.le_of_ble_eq_true rfl) dX1_hasLesserTwin_48 ⟨Nat.le_refl 0, Nat.le_refl 0⟩ ?_
      refine G.if_ne (tgt := 56) C dX1_hasLesserTwin_51 (by decide) (fun hc => ?_) (fun hc => ?_)
      · have h := it_f h hc
        obtain ⟨x4_12, ex4_12, h⟩ := ltv_ex h
        refine G.iinc (L' := [(4, .int x4_12), (5, .long v_8), (0, .ref (eA E 24)), (1, .ref (eA E 11)), (2, .int x2), (3, .int x3)]) C 5 dX1_hasLesserTwin_56 rfl (ex4_12.trans rfl) (by decide) rfl ?_
        refine G.goto (tgt := 16) C dX1_hasLesserTwin_59 (by decide) ?_
        exact G.sub [2, 3, 4, 5, 0] rfl (hk_16 _ _ _ _  h)
      · have h := it_t h hc
        refine G.iconst (v := (1 : Int32)) C dX1_hasLesserTwin_54 (by decide) ?_
        cases h
        exact G.zret C hr rfl dX1_hasLesserTwin_55
def b_X1_hasLesserTwin_24_11_16 : Nat → Int32 → Int32 → Int32 → Mm → Option (Int32 × Mm)
  | 0, _, _, _, _ => none
  | n + 1, x2, x3, x4, M => bb_X1_hasLesserTwin_24_11_16 (b_X1_hasLesserTwin_24_11_16 n) x2 x3 x4 M
set_option maxHeartbeats 4000000 in
theorem g_X1_hasLesserTwin_24_11_16  {n : Nat} {x2 : Int32} {x3 : Int32} {x4 : Int32} {M : Mm} {v : Int32} {M' : Mm} (hE : Has shC (eH E)) (C : Cx RX1 cX1_hasLesserTwin 7 p (rmD 4) s m args meth c E) (hr : meth.sig.returnType = (some .boolean)) (h : b_X1_hasLesserTwin_24_11_16 n x2 x3 x4 M = some (v, M')) : G p l e (rmD 4) s m args below meth c E 7 0 0 (QR below args s E 0 0 (some (.int v)) M') 16 [(0, .ref (eA E 24)), (1, .ref (eA E 11)), (2, .int x2), (3, .int x3), (4, .int x4)] [] M := by
  induction n generalizing x2 x3 x4 M with
  | zero => cases h
  | succ n ih => exact gb_X1_hasLesserTwin_24_11_16 hE C hr (fun _ _ _ _ => ih)  h
def bb_X1_hasLesserTwin_24_11_0 (x2 : Int32) (x3 : Int32) (M : Mm) : Option (Int32 × Mm) := bd (f_X7_inkOf_11 x2 M) fun v_2 => bd (f_X4_turnsInto_26 v_2 (0 : Int32) M) fun M_4 => b_X1_hasLesserTwin_24_11_16 FU x2 x3 (0 : Int32) M_4
set_option maxHeartbeats 4000000 in
set_option maxRecDepth 100000 in
theorem gb_X1_hasLesserTwin_24_11_0  {x2 : Int32} {x3 : Int32} {M : Mm} {v : Int32} {M' : Mm} (hE : Has shC (eH E)) (C : Cx RX1 cX1_hasLesserTwin 7 p (rmD 4) s m args meth c E) (hr : meth.sig.returnType = (some .boolean)) (h : bb_X1_hasLesserTwin_24_11_0 x2 x3 M = some (v, M')) : G p l e (rmD 4) s m args below meth c E 7 0 0 (QR below args s E 0 0 (some (.int v)) M') 0 [(0, .ref (eA E 24)), (1, .ref (eA E 11)), (2, .int x2), (3, .int x3)] [] M := by
  unfold bb_X1_hasLesserTwin_24_11_0 at h
  refine G.aload_n C 1 dX1_hasLesserTwin_0 rfl rfl ?_
  refine G.iload_n C 2 dX1_hasLesserTwin_1 rfl rfl ?_
  obtain ⟨v_2, hv_1, h⟩ := bd_ex h
  refine G.callV (rest := []) C (s_X7_inkOf_11 hE  hv_1) ⟨tg_454, tg_92, ok_X7_inkOf, Nat.le_of_ble_eq_true rfl, Nat.le_of_ble_eq_true rfl⟩ tg_1404 tg_452 tg_453 (sc_11 hE) rfl rfl (Nat.le_of_ble_eq_true rfl) dX1_hasLesserTwin_2 ⟨Nat.le_refl 0, Nat.le_refl 0⟩ ?_
  refine G.aload_n C 0 dX1_hasLesserTwin_5 rfl rfl ?_
  refine G.getR (k := 1) C k_X1 (sc_24 hE) rfl (by decide) tg_247 dX1_hasLesserTwin_6 ?_
  refine G.iconst (v := (0 : Int32)) C dX1_hasLesserTwin_9 (by decide) ?_
  obtain ⟨M_4, hv_3, h⟩ := bd_ex h
  refine G.callS (rest := []) C (s_X4_turnsInto_26 hE  hv_3) ⟨tg_425, tg_101, ok_X4_turnsInto, Nat.le_of_ble_eq_true rfl, Nat.le_of_ble_eq_true rfl⟩ tg_423 tg_424 rfl (Nat.le_of_ble_eq_true rfl) dX1_hasLesserTwin_10 ⟨Nat.le_refl 0, Nat.le_refl 0⟩ ?_
  refine G.iconst (v := (0 : Int32)) C dX1_hasLesserTwin_13 (by decide) ?_
  refine G.istore (L' := [(4, .int (0 : Int32)), (0, .ref (eA E 24)), (1, .ref (eA E 11)), (2, .int x2), (3, .int x3)]) C dX1_hasLesserTwin_14 rfl (by decide) rfl ?_
  exact G.sub [1, 2, 3, 4, 0] rfl (g_X1_hasLesserTwin_24_11_16 hE C hr  h)
def f_X1_hasLesserTwin_24_11 (x2 : Int32) (x3 : Int32) (M : Mm) : Option (Int32 × Mm) := bb_X1_hasLesserTwin_24_11_0 x2 x3 M
theorem s_X1_hasLesserTwin_24_11 {l : Launch} {E : Ev} {x2 : Int32} {x3 : Int32} {M : Mm} {v : Int32} {M' : Mm} (hE : Has shC (eH E)) (h : f_X1_hasLesserTwin_24_11 x2 x3 M = some (v, M')) : MetA l yX1_hasLesserTwin cX1_hasLesserTwin 7 (some .boolean) 4 E [.ref (eA E 24), .ref (eA E 11), .int x2, .int x3] M (some (.int v)) M' := by
  refine MetA.of (by decide +kernel) (Nat.le_of_ble_eq_true rfl) ?_
  intro p e s m below meth c C hr hnm
  exact G.sub [0, 1, 2, 3] rfl (gb_X1_hasLesserTwin_24_11_0 hE C hr  h)
def bb_X1_originalLetters_24_11_5 (k_5 : Int32 → Int32 → Int32 → Mm → Option (Int32 × Mm)) (x2 : Int32) (x3 : Int32) (x4 : Int32) (M : Mm) : Option (Int32 × Mm) := if (M.1 11 7) ≤ x4 then (some (x3, M)) else (bd (f_X7_inkOf_11 x4 M) fun v_2 => if v_2 = (0 : Int64) then (ltv (x4 + (1 : Int32)) fun x4_3 => k_5 x2 x3 x4_3 M) else (bd2 (f_X1_hasLesserTwin_24_11 x4 x2 M) fun v_6 M_5 => if v_6 = 0 then (ltv (x3 ||| (shI (1 : Int32) x4)) fun x3_8 => ltv (x4 + (1 : Int32)) fun x4_9 => k_5 x2 x3_8 x4_9 M_5) else (ltv (x4 + (1 : Int32)) fun x4_7 => k_5 x2 x3 x4_7 M_5)))
set_option maxHeartbeats 4000000 in
set_option maxRecDepth 100000 in
theorem gb_X1_originalLetters_24_11_5  {k_5 : Int32 → Int32 → Int32 → Mm → Option (Int32 × Mm)} {x2 : Int32} {x3 : Int32} {x4 : Int32} {M : Mm} {v : Int32} {M' : Mm} (hE : Has shC (eH E)) (C : Cx RX1 cX1_originalLetters 5 p (rmD 5) s m args meth c E) (hr : meth.sig.returnType = (some .int)) (hk_5 : ∀ (x2 : Int32) (x3 : Int32) (x4 : Int32) (M : Mm), k_5 x2 x3 x4 M = some (v, M') → G p l e (rmD 5) s m args below meth c E 5 0 0 (QR below args s E 0 0 (some (.int v)) M') 5 [(0, .ref (eA E 24)), (1, .ref (eA E 11)), (2, .int x2), (3, .int x3), (4, .int x4)] [] M) (h : bb_X1_originalLetters_24_11_5 k_5 x2 x3 x4 M = some (v, M')) : G p l e (rmD 5) s m args below meth c E 5 0 0 (QR below args s E 0 0 (some (.int v)) M') 5 [(0, .ref (eA E 24)), (1, .ref (eA E 11)), (2, .int x2), (3, .int x3), (4, .int x4)] [] M := by
  unfold bb_X1_originalLetters_24_11_5 at h
  refine G.iload C 4 dX1_originalLetters_5 rfl ?_
  refine G.aload_n C 1 dX1_originalLetters_7 rfl rfl ?_
  refine G.getIN (k := 7) C k_X7 (sc_11 hE) rfl (by decide) tw_161 dX1_originalLetters_8 ?_
  refine G.icmp_ge (tgt := 49) C dX1_originalLetters_11 (by decide) (fun hc => ?_) (fun hc => ?_)
  · have h := it_t h hc
    refine G.iload_n C 3 dX1_originalLetters_49 rfl rfl ?_
    cases h
    exact G.iret C hr dX1_originalLetters_50
  · have h := it_f h hc
    refine G.aload_n C 1 dX1_originalLetters_14 rfl rfl ?_
    refine G.iload C 4 dX1_originalLetters_15 rfl ?_
    obtain ⟨v_2, hv_1, h⟩ := bd_ex h
    refine G.callV (rest := []) C (s_X7_inkOf_11 hE  hv_1) ⟨tg_454, tg_92, ok_X7_inkOf, Nat.le_of_ble_eq_true rfl, Nat.le_of_ble_eq_true rfl⟩ tg_1404 tg_452 tg_453 (sc_11 hE) rfl rfl (Nat.le_of_ble_eq_true rfl) dX1_originalLetters_17 ⟨Nat.le_refl 0, Nat.le_refl 0⟩ ?_
    refine G.lconst (v := (0 : Int64)) C dX1_originalLetters_20 (by decide) ?_
    refine G.lcmp C dX1_originalLetters_21 (G.if_eq (tgt := 43) C dX1_originalLetters_22 (by decide) (fun hc => ?_) (fun hc => ?_))
    · have h := it_t h (lgc_eq.mp hc)
      obtain ⟨x4_3, ex4_3, h⟩ := ltv_ex h
      refine G.iinc (L' := [(4, .int x4_3), (0, .ref (eA E 24)), (1, .ref (eA E 11)), (2, .int x2), (3, .int x3)]) C 4 dX1_originalLetters_43 rfl (ex4_3.trans rfl) (by decide) rfl ?_
      refine G.goto (tgt := 5) C dX1_originalLetters_46 (by decide) ?_
      exact G.sub [1, 2, 3, 4, 0] rfl (hk_5 _ _ _ _  h)
    · have h := it_f h ((not_congr lgc_eq).mp hc)
      refine G.aload_n C 0 dX1_originalLetters_25 rfl rfl ?_
      refine G.aload_n C 1 dX1_originalLetters_26 rfl rfl ?_
      refine G.iload C 4 dX1_originalLetters_27 rfl ?_
      refine G.iload_n C 2 dX1_originalLetters_29 rfl rfl ?_
      obtain ⟨v_6, M_5, hv_4, h⟩ := bd2_ex h
      refine G.callV (rest := []) C (s_X1_hasLesserTwin_24_11 hE  hv_4) ⟨tg_1408, tg_94, ok_X1_hasLesserTwin, Nat.le_of_ble_eq_true rfl, Nat.le_of_ble_eq_true rfl⟩ tg_1405 tg_1407 tg_45 (sc_24 hE) rfl rfl (Nat.le_of_ble_eq_true rfl) dX1_originalLetters_30 ⟨Nat.le_refl 0, Nat.le_refl 0⟩ ?_
      refine G.if_ne (tgt := 43) C dX1_originalLetters_33 (by decide) (fun hc => ?_) (fun hc => ?_)
      · have h := it_f h hc
        obtain ⟨x4_7, ex4_7, h⟩ := ltv_ex h
        refine G.iinc (L' := [(4, .int x4_7), (0, .ref (eA E 24)), (1, .ref (eA E 11)), (2, .int x2), (3, .int x3)]) C 4 dX1_originalLetters_43 rfl (ex4_7.trans rfl) (by decide) rfl ?_
        refine G.goto (tgt := 5) C dX1_originalLetters_46 (by decide) ?_
        exact G.sub [1, 2, 3, 4, 0] rfl (hk_5 _ _ _ _  h)
      · have h := it_t h hc
        refine G.iload_n C 3 dX1_originalLetters_36 rfl rfl ?_
        refine G.iconst (v := (1 : Int32)) C dX1_originalLetters_37 (by decide) ?_
        refine G.iload C 4 dX1_originalLetters_38 rfl ?_
        refine G.isl C dX1_originalLetters_40 ?_
        refine G.ior C dX1_originalLetters_41 ?_
        obtain ⟨x3_8, ex3_8, h⟩ := ltv_ex h
        refine G.istore_n (L' := [(3, .int x3_8), (0, .ref (eA E 24)), (1, .ref (eA E 11)), (2, .int x2), (4, .int x4)]) C dX1_originalLetters_42 rfl ex3_8 (by decide) rfl ?_
        obtain ⟨x4_9, ex4_9, h⟩ := ltv_ex h
        refine G.iinc (L' := [(4, .int x4_9), (3, .int x3_8), (0, .ref (eA E 24)), (1, .ref (eA E 11)), (2, .int x2)]) C 4 dX1_originalLetters_43 rfl (ex4_9.trans rfl) (by decide) rfl ?_
        refine G.goto (tgt := 5) C dX1_originalLetters_46 (by decide) ?_
        exact G.sub [2, 3, 4, 1, 0] rfl (hk_5 _ _ _ _  h)
def b_X1_originalLetters_24_11_5 : Nat → Int32 → Int32 → Int32 → Mm → Option (Int32 × Mm)
  | 0, _, _, _, _ => none
  | n + 1, x2, x3, x4, M => bb_X1_originalLetters_24_11_5 (b_X1_originalLetters_24_11_5 n) x2 x3 x4 M
set_option maxHeartbeats 4000000 in
theorem g_X1_originalLetters_24_11_5  {n : Nat} {x2 : Int32} {x3 : Int32} {x4 : Int32} {M : Mm} {v : Int32} {M' : Mm} (hE : Has shC (eH E)) (C : Cx RX1 cX1_originalLetters 5 p (rmD 5) s m args meth c E) (hr : meth.sig.returnType = (some .int)) (h : b_X1_originalLetters_24_11_5 n x2 x3 x4 M = some (v, M')) : G p l e (rmD 5) s m args below meth c E 5 0 0 (QR below args s E 0 0 (some (.int v)) M') 5 [(0, .ref (eA E 24)), (1, .ref (eA E 11)), (2, .int x2), (3, .int x3), (4, .int x4)] [] M := by
  induction n generalizing x2 x3 x4 M with
  | zero => cases h
  | succ n ih => exact gb_X1_originalLetters_24_11_5 hE C hr (fun _ _ _ _ => ih)  h
def bb_X1_originalLetters_24_11_0 (x2 : Int32) (M : Mm) : Option (Int32 × Mm) := b_X1_originalLetters_24_11_5 FU x2 (0 : Int32) (0 : Int32) M
set_option maxHeartbeats 4000000 in
set_option maxRecDepth 100000 in
theorem gb_X1_originalLetters_24_11_0  {x2 : Int32} {M : Mm} {v : Int32} {M' : Mm} (hE : Has shC (eH E)) (C : Cx RX1 cX1_originalLetters 5 p (rmD 5) s m args meth c E) (hr : meth.sig.returnType = (some .int)) (h : bb_X1_originalLetters_24_11_0 x2 M = some (v, M')) : G p l e (rmD 5) s m args below meth c E 5 0 0 (QR below args s E 0 0 (some (.int v)) M') 0 [(0, .ref (eA E 24)), (1, .ref (eA E 11)), (2, .int x2)] [] M := by
  unfold bb_X1_originalLetters_24_11_0 at h
  refine G.iconst (v := (0 : Int32)) C dX1_originalLetters_0 (by decide) ?_
  refine G.istore_n (L' := [(3, .int (0 : Int32)), (0, .ref (eA E 24)), (1, .ref (eA E 11)), (2, .int x2)]) C dX1_originalLetters_1 rfl rfl (by decide) rfl ?_
  refine G.iconst (v := (0 : Int32)) C dX1_originalLetters_2 (by decide) ?_
  refine G.istore (L' := [(4, .int (0 : Int32)), (3, .int (0 : Int32)), (0, .ref (eA E 24)), (1, .ref (eA E 11)), (2, .int x2)]) C dX1_originalLetters_3 rfl (by decide) rfl ?_
  exact G.sub [2, 3, 4, 1, 0] rfl (g_X1_originalLetters_24_11_5 hE C hr  h)
def f_X1_originalLetters_24_11 (x2 : Int32) (M : Mm) : Option (Int32 × Mm) := bb_X1_originalLetters_24_11_0 x2 M
theorem s_X1_originalLetters_24_11 {l : Launch} {E : Ev} {x2 : Int32} {M : Mm} {v : Int32} {M' : Mm} (hE : Has shC (eH E)) (h : f_X1_originalLetters_24_11 x2 M = some (v, M')) : MetA l yX1_originalLetters cX1_originalLetters 5 (some .int) 5 E [.ref (eA E 24), .ref (eA E 11), .int x2] M (some (.int v)) M' := by
  refine MetA.of (by decide +kernel) (Nat.le_of_ble_eq_true rfl) ?_
  intro p e s m below meth c C hr hnm
  exact G.sub [0, 1, 2] rfl (gb_X1_originalLetters_24_11_0 hE C hr  h)
end
