section
variable {p : Program} {l : Launch} {e : Env} {s : State} {m : MethodId} {args : Array Value} {below : List Frame} {meth : Method} {c : Code} {E : Ev}
def bb_X4_turnsInto_45_29 (k_29 : Int32 → Int64 → Int64 → Int32 → Mm → Option Mm) (x3 : Int32) (x4 : Int64) (x6 : Int64) (x8 : Int32) (M : Mm) : Option Mm := if (4 : Int32) ≤ x8 then (some M) else (bd (f_X4_toCorner x4) fun v_4 => gd (inb (((8 : Int32) * x3) + x8) 64) (ltv (wJ M 45 (ix (((8 : Int32) * x3) + x8)) v_4) fun M_6 => bd (f_X4_toCorner x6) fun v_8 => gd (inb ((((8 : Int32) * x3) + (4 : Int32)) + x8) 64) (ltv (wJ M_6 45 (ix ((((8 : Int32) * x3) + (4 : Int32)) + x8)) v_8) fun M_10 => bd (f_X4_quarterTurned x4) fun v_12 => bd (f_X4_quarterTurned x6) fun v_14 => ltv (x8 + (1 : Int32)) fun x8_15 => k_29 x3 v_12 v_14 x8_15 M_10)))
set_option maxHeartbeats 4000000 in
set_option maxRecDepth 100000 in
theorem gb_X4_turnsInto_45_29  {k_29 : Int32 → Int64 → Int64 → Int32 → Mm → Option Mm} {x3 : Int32} {x4 : Int64} {x6 : Int64} {x8 : Int32} {M : Mm} {M' : Mm} (hE : Has shC (eH E)) (C : Cx RX4 cX4_turnsInto 9 p (rmD 3) s m args meth c E) (hr : meth.sig.returnType = none) (hk_29 : ∀ (x3 : Int32) (x4 : Int64) (x6 : Int64) (x8 : Int32) (M : Mm), k_29 x3 x4 x6 x8 M = some M' → G p l e (rmD 3) s m args below meth c E 9 0 0 (QR below args s E 0 0 none M') 29 [(2, .ref (eA E 45)), (3, .int x3), (4, .long x4), (6, .long x6), (8, .int x8)] [] M) (h : bb_X4_turnsInto_45_29 k_29 x3 x4 x6 x8 M = some M') : G p l e (rmD 3) s m args below meth c E 9 0 0 (QR below args s E 0 0 none M') 29 [(2, .ref (eA E 45)), (3, .int x3), (4, .long x4), (6, .long x6), (8, .int x8)] [] M := by
  unfold bb_X4_turnsInto_45_29 at h
  refine G.iload C 4 dX4_turnsInto_29 rfl ?_
  refine G.iconst (v := (4 : Int32)) C dX4_turnsInto_31 (by decide) ?_
  refine G.icmp_ge (tgt := 85) C dX4_turnsInto_32 (by decide) (fun hc => ?_) (fun hc => ?_)
  · have h := it_t h hc
    cases h
    exact G.vret C hr dX4_turnsInto_85
  · have h := it_f h hc
    refine G.aload_n C 0 dX4_turnsInto_35 rfl rfl ?_
    refine G.bipush (v := (8 : Int32)) C dX4_turnsInto_36 (by decide) ?_
    refine G.iload_n C 1 dX4_turnsInto_38 rfl rfl ?_
    refine G.imul C dX4_turnsInto_39 ?_
    refine G.iload C 4 dX4_turnsInto_40 rfl ?_
    refine G.iadd C dX4_turnsInto_42 ?_
    refine G.lload C 2 dX4_turnsInto_43 rfl ?_
    obtain ⟨v_4, hv_3, h⟩ := bd_ex h
    refine G.callS (rest := [.int (((8 : Int32) * x3) + x8), .ref (eA E 45)]) C (s_X4_toCorner  hv_3) ⟨tg_434, tg_101, ok_X4_toCorner, Nat.le_of_ble_eq_true rfl, Nat.le_of_ble_eq_true rfl⟩ tg_432 tg_433 rfl (Nat.le_of_ble_eq_true rfl) dX4_turnsInto_45 ⟨Nat.le_refl 0, Nat.le_refl 0⟩ ?_
    obtain ⟨hg_5, h⟩ := gd_ex h
    obtain ⟨M_6, eM_6, h⟩ := ltv_ex h
    refine G.sJ (j := (ix (((8 : Int32) * x3) + x8))) C (sc_45 hE) hg_5 rfl dX4_turnsInto_48 eM_6 ?_
    refine G.aload_n C 0 dX4_turnsInto_49 rfl rfl ?_
    refine G.bipush (v := (8 : Int32)) C dX4_turnsInto_50 (by decide) ?_
    refine G.iload_n C 1 dX4_turnsInto_52 rfl rfl ?_
    refine G.imul C dX4_turnsInto_53 ?_
    refine G.iconst (v := (4 : Int32)) C dX4_turnsInto_54 (by decide) ?_
    refine G.iadd C dX4_turnsInto_55 ?_
    refine G.iload C 4 dX4_turnsInto_56 rfl ?_
    refine G.iadd C dX4_turnsInto_58 ?_
    refine G.lload C 3 dX4_turnsInto_59 rfl ?_
    obtain ⟨v_8, hv_7, h⟩ := bd_ex h
    refine G.callS (rest := [.int ((((8 : Int32) * x3) + (4 : Int32)) + x8), .ref (eA E 45)]) C (s_X4_toCorner  hv_7) ⟨tg_434, tg_101, ok_X4_toCorner, Nat.le_of_ble_eq_true rfl, Nat.le_of_ble_eq_true rfl⟩ tg_432 tg_433 rfl (Nat.le_of_ble_eq_true rfl) dX4_turnsInto_61 ⟨Nat.le_refl 0, Nat.le_refl 0⟩ ?_
    obtain ⟨hg_9, h⟩ := gd_ex h
    obtain ⟨M_10, eM_10, h⟩ := ltv_ex h
    refine G.sJ (j := (ix ((((8 : Int32) * x3) + (4 : Int32)) + x8))) C (sc_45 hE) hg_9 rfl dX4_turnsInto_64 eM_10 ?_
    refine G.lload C 2 dX4_turnsInto_65 rfl ?_
    obtain ⟨v_12, hv_11, h⟩ := bd_ex h
    refine G.callS (rest := []) C (s_X4_quarterTurned  hv_11) ⟨tg_439, tg_101, ok_X4_quarterTurned, Nat.le_of_ble_eq_true rfl, Nat.le_of_ble_eq_true rfl⟩ tg_437 tg_438 rfl (Nat.le_of_ble_eq_true rfl) dX4_turnsInto_67 ⟨Nat.le_refl 0, Nat.le_refl 0⟩ ?_
    refine G.lstore (L' := [(4, .long v_12), (2, .ref (eA E 45)), (3, .int x3), (6, .long x6), (8, .int x8)]) C dX4_turnsInto_70 rfl (by decide) rfl ?_
    refine G.lload C 3 dX4_turnsInto_72 rfl ?_
    obtain ⟨v_14, hv_13, h⟩ := bd_ex h
    refine G.callS (rest := []) C (s_X4_quarterTurned  hv_13) ⟨tg_439, tg_101, ok_X4_quarterTurned, Nat.le_of_ble_eq_true rfl, Nat.le_of_ble_eq_true rfl⟩ tg_437 tg_438 rfl (Nat.le_of_ble_eq_true rfl) dX4_turnsInto_74 ⟨Nat.le_refl 0, Nat.le_refl 0⟩ ?_
    refine G.lstore (L' := [(6, .long v_14), (4, .long v_12), (2, .ref (eA E 45)), (3, .int x3), (8, .int x8)]) C dX4_turnsInto_77 rfl (by decide) rfl ?_
    obtain ⟨x8_15, ex8_15, h⟩ := ltv_ex h
    refine G.iinc (L' := [(8, .int x8_15), (6, .long v_14), (4, .long v_12), (2, .ref (eA E 45)), (3, .int x3)]) C 4 dX4_turnsInto_79 rfl (ex8_15.trans rfl) (by decide) rfl ?_
    refine G.goto (tgt := 29) C dX4_turnsInto_82 (by decide) ?_
    exact G.sub [3, 4, 2, 1, 0] rfl (hk_29 _ _ _ _ _  h)
def b_X4_turnsInto_45_29 : Nat → Int32 → Int64 → Int64 → Int32 → Mm → Option Mm
  | 0, _, _, _, _, _ => none
  | n + 1, x3, x4, x6, x8, M => bb_X4_turnsInto_45_29 (b_X4_turnsInto_45_29 n) x3 x4 x6 x8 M
set_option maxHeartbeats 4000000 in
theorem g_X4_turnsInto_45_29  {n : Nat} {x3 : Int32} {x4 : Int64} {x6 : Int64} {x8 : Int32} {M : Mm} {M' : Mm} (hE : Has shC (eH E)) (C : Cx RX4 cX4_turnsInto 9 p (rmD 3) s m args meth c E) (hr : meth.sig.returnType = none) (h : b_X4_turnsInto_45_29 n x3 x4 x6 x8 M = some M') : G p l e (rmD 3) s m args below meth c E 9 0 0 (QR below args s E 0 0 none M') 29 [(2, .ref (eA E 45)), (3, .int x3), (4, .long x4), (6, .long x6), (8, .int x8)] [] M := by
  induction n generalizing x3 x4 x6 x8 M with
  | zero => cases h
  | succ n ih => exact gb_X4_turnsInto_45_29 hE C hr (fun _ _ _ _ _ => ih)  h
def bb_X4_turnsInto_45_0 (x0 : Int64) (x3 : Int32) (M : Mm) : Option Mm := if x3 < 0 then (some M) else (if (((8 : Int32) * x3) + (8 : Int32)) ≤ (64 : Int32) then (bd (f_X4_mirrored x0) fun v_2 => b_X4_turnsInto_45_29 FU x3 x0 v_2 (0 : Int32) M) else (some M))
set_option maxHeartbeats 4000000 in
set_option maxRecDepth 100000 in
theorem gb_X4_turnsInto_45_0  {x0 : Int64} {x3 : Int32} {M : Mm} {M' : Mm} (hE : Has shC (eH E)) (C : Cx RX4 cX4_turnsInto 9 p (rmD 3) s m args meth c E) (hr : meth.sig.returnType = none) (h : bb_X4_turnsInto_45_0 x0 x3 M = some M') : G p l e (rmD 3) s m args below meth c E 9 0 0 (QR below args s E 0 0 none M') 0 [(0, .long x0), (2, .ref (eA E 45)), (3, .int x3)] [] M := by
  unfold bb_X4_turnsInto_45_0 at h
  refine G.iload_n C 2 dX4_turnsInto_0 rfl rfl ?_
  refine G.if_lt (tgt := 16) C dX4_turnsInto_1 (by decide) (fun hc => ?_) (fun hc => ?_)
  · have h := it_t h hc
    cases h
    exact G.vret C hr dX4_turnsInto_16
  · have h := it_f h hc
    refine G.bipush (v := (8 : Int32)) C dX4_turnsInto_4 (by decide) ?_
    refine G.iload_n C 2 dX4_turnsInto_6 rfl rfl ?_
    refine G.imul C dX4_turnsInto_7 ?_
    refine G.bipush (v := (8 : Int32)) C dX4_turnsInto_8 (by decide) ?_
    refine G.iadd C dX4_turnsInto_10 ?_
    refine G.aload_n C 1 dX4_turnsInto_11 rfl rfl ?_
    refine G.alen (v := (64 : Int32)) C (sc_45 hE) rfl (by decide) dX4_turnsInto_12 ?_
    refine G.icmp_le (tgt := 17) C dX4_turnsInto_13 (by decide) (fun hc => ?_) (fun hc => ?_)
    · have h := it_t h hc
      refine G.lload_n C 0 dX4_turnsInto_17 rfl rfl ?_
      refine G.lstore (L' := [(4, .long x0), (0, .long x0), (2, .ref (eA E 45)), (3, .int x3)]) C dX4_turnsInto_18 rfl (by decide) rfl ?_
      refine G.lload_n C 1 dX4_turnsInto_20 rfl rfl ?_
      obtain ⟨v_2, hv_1, h⟩ := bd_ex h
      refine G.callS (rest := []) C (s_X4_mirrored  hv_1) ⟨tg_428, tg_101, ok_X4_mirrored, Nat.le_of_ble_eq_true rfl, Nat.le_of_ble_eq_true rfl⟩ tg_426 tg_427 rfl (Nat.le_of_ble_eq_true rfl) dX4_turnsInto_21 ⟨Nat.le_refl 0, Nat.le_refl 0⟩ ?_
      refine G.lstore (L' := [(6, .long v_2), (4, .long x0), (0, .long x0), (2, .ref (eA E 45)), (3, .int x3)]) C dX4_turnsInto_24 rfl (by decide) rfl ?_
      refine G.iconst (v := (0 : Int32)) C dX4_turnsInto_26 (by decide) ?_
      refine G.istore (L' := [(8, .int (0 : Int32)), (6, .long v_2), (4, .long x0), (0, .long x0), (2, .ref (eA E 45)), (3, .int x3)]) C dX4_turnsInto_27 rfl (by decide) rfl ?_
      exact G.sub [4, 5, 2, 1, 0] rfl (g_X4_turnsInto_45_29 hE C hr  h)
    · have h := it_f h hc
      cases h
      exact G.vret C hr dX4_turnsInto_16
def f_X4_turnsInto_45 (x0 : Int64) (x3 : Int32) (M : Mm) : Option Mm := bb_X4_turnsInto_45_0 x0 x3 M
theorem s_X4_turnsInto_45 {l : Launch} {E : Ev} {x0 : Int64} {x3 : Int32} {M : Mm} {M' : Mm} (hE : Has shC (eH E)) (h : f_X4_turnsInto_45 x0 x3 M = some M') : MetA l yX4_turnsInto cX4_turnsInto 9 none 3 E [.long x0, .ref (eA E 45), .int x3] M none M' := by
  refine MetA.of (by decide +kernel) (Nat.le_of_ble_eq_true rfl) ?_
  intro p e s m below meth c C hr hnm
  exact G.sub [0, 1, 2] rfl (gb_X4_turnsInto_45_0 hE C hr  h)
def bb_X4_apartBy_45_20 (k_20 : Int32 → Int64 → Int32 → Int32 → Int32 → Mm → Option Int32) (x1 : Int32) (x2 : Int64) (x5 : Int32) (x6 : Int32) (x7 : Int32) (M : Mm) : Option Int32 := if x6 ≤ x7 then (some x5) else (ltv (((8 : Int32) * x1) + x7) fun x8_1 => if x8_1 < 0 then (ltv (x7 + (1 : Int32)) fun x7_2 => k_20 x1 x2 x5 x6 x7_2 M) else (if (64 : Int32) ≤ x8_1 then (ltv (x7 + (1 : Int32)) fun x7_3 => k_20 x1 x2 x5 x6 x7_3 M) else (gd (inb x8_1 64) (bd (f_J13_bitCount_95d88 ((M.2 45 (ix x8_1)) ^^^ x2)) fun v_6 => ltv (if v_6 < x5 then v_6 else x5) fun x5_7 => ltv (x7 + (1 : Int32)) fun x7_8 => k_20 x1 x2 x5_7 x6 x7_8 M))))
set_option maxHeartbeats 4000000 in
set_option maxRecDepth 100000 in
theorem gb_X4_apartBy_45_20  {k_20 : Int32 → Int64 → Int32 → Int32 → Int32 → Mm → Option Int32} {x1 : Int32} {x2 : Int64} {x5 : Int32} {x6 : Int32} {x7 : Int32} {M : Mm} {v : Int32} (hE : Has shC (eH E)) (C : Cx RX4 cX4_apartBy 9 p (rmD 2) s m args meth c E) (hr : meth.sig.returnType = (some .int)) (hk_20 : ∀ (x1 : Int32) (x2 : Int64) (x5 : Int32) (x6 : Int32) (x7 : Int32) (M : Mm), k_20 x1 x2 x5 x6 x7 M = some v → G p l e (rmD 2) s m args below meth c E 9 0 0 (QR below args s E 0 0 (some (.int v)) M) 20 [(0, .ref (eA E 45)), (1, .int x1), (2, .long x2), (5, .int x5), (6, .int x6), (7, .int x7)] [] M) (h : bb_X4_apartBy_45_20 k_20 x1 x2 x5 x6 x7 M = some v) : G p l e (rmD 2) s m args below meth c E 9 0 0 (QR below args s E 0 0 (some (.int v)) M) 20 [(0, .ref (eA E 45)), (1, .int x1), (2, .long x2), (5, .int x5), (6, .int x6), (7, .int x7)] [] M := by
  unfold bb_X4_apartBy_45_20 at h
  refine G.iload C 5 dX4_apartBy_20 rfl ?_
  refine G.iload C 4 dX4_apartBy_22 rfl ?_
  refine G.icmp_ge (tgt := 70) C dX4_apartBy_24 (by decide) (fun hc => ?_) (fun hc => ?_)
  · have h := it_t h hc
    refine G.iload C 3 dX4_apartBy_70 rfl ?_
    cases h
    exact G.iret C hr dX4_apartBy_72
  · have h := it_f h hc
    refine G.bipush (v := (8 : Int32)) C dX4_apartBy_27 (by decide) ?_
    refine G.iload_n C 1 dX4_apartBy_29 rfl rfl ?_
    refine G.imul C dX4_apartBy_30 ?_
    refine G.iload C 5 dX4_apartBy_31 rfl ?_
    refine G.iadd C dX4_apartBy_33 ?_
    obtain ⟨x8_1, ex8_1, h⟩ := ltv_ex h
    refine G.istore (L' := [(8, .int x8_1), (0, .ref (eA E 45)), (1, .int x1), (2, .long x2), (5, .int x5), (6, .int x6), (7, .int x7)]) C dX4_apartBy_34 ex8_1 (by decide) rfl ?_
    refine G.iload C 0 dX4_apartBy_36 rfl ?_
    refine G.if_lt (tgt := 64) C dX4_apartBy_38 (by decide) (fun hc => ?_) (fun hc => ?_)
    · have h := it_t h hc
      obtain ⟨x7_2, ex7_2, h⟩ := ltv_ex h
      refine G.iinc (L' := [(7, .int x7_2), (8, .int x8_1), (0, .ref (eA E 45)), (1, .int x1), (2, .long x2), (5, .int x5), (6, .int x6)]) C 6 dX4_apartBy_64 rfl (ex7_2.trans rfl) (by decide) rfl ?_
      refine G.goto (tgt := 20) C dX4_apartBy_67 (by decide) ?_
      exact G.sub [2, 3, 4, 5, 6, 0] rfl (hk_20 _ _ _ _ _ _  h)
    · have h := it_f h hc
      refine G.iload C 0 dX4_apartBy_41 rfl ?_
      refine G.aload_n C 1 dX4_apartBy_43 rfl rfl ?_
      refine G.alen (v := (64 : Int32)) C (sc_45 hE) rfl (by decide) dX4_apartBy_44 ?_
      refine G.icmp_ge (tgt := 64) C dX4_apartBy_45 (by decide) (fun hc => ?_) (fun hc => ?_)
      · have h := it_t h hc
        obtain ⟨x7_3, ex7_3, h⟩ := ltv_ex h
        refine G.iinc (L' := [(7, .int x7_3), (8, .int x8_1), (0, .ref (eA E 45)), (1, .int x1), (2, .long x2), (5, .int x5), (6, .int x6)]) C 6 dX4_apartBy_64 rfl (ex7_3.trans rfl) (by decide) rfl ?_
        refine G.goto (tgt := 20) C dX4_apartBy_67 (by decide) ?_
        exact G.sub [2, 3, 4, 5, 6, 0] rfl (hk_20 _ _ _ _ _ _  h)
      · have h := it_f h hc
        refine G.iload C 4 dX4_apartBy_48 rfl ?_
        refine G.aload_n C 1 dX4_apartBy_50 rfl rfl ?_
        refine G.iload C 0 dX4_apartBy_51 rfl ?_
        obtain ⟨hg_4, h⟩ := gd_ex h
        refine G.aJ (j := ix x8_1) C (sc_45 hE) hg_4 rfl dX4_apartBy_53 ?_
        refine G.lload_n C 3 dX4_apartBy_54 rfl rfl ?_
        refine G.lxor C dX4_apartBy_55 ?_
        obtain ⟨v_6, hv_5, h⟩ := bd_ex h
        refine G.callS (rest := [.int x5]) C (s_J13_bitCount_95d88  hv_5) ⟨tg_457, tg_102, ok_J13_bitCount_95d88, Nat.le_of_ble_eq_true rfl, Nat.le_of_ble_eq_true rfl⟩ tg_972 tg_456 rfl (Nat.le_of_ble_eq_true rfl) dX4_apartBy_56 ⟨Nat.le_refl 0, Nat.le_refl 0⟩ ?_
        refine G.mmin (rest := []) C tg_473 tg_421 tg_100 tg_422 ⟨Nat.le_of_ble_eq_true rfl, Nat.le_of_ble_eq_true rfl⟩ (Nat.le_of_ble_eq_true rfl) ⟨Nat.le_refl 0, Nat.le_refl 0⟩ dX4_apartBy_59 ?_
        obtain ⟨x5_7, ex5_7, h⟩ := ltv_ex h
        refine G.istore (L' := [(5, .int x5_7), (8, .int x8_1), (0, .ref (eA E 45)), (1, .int x1), (2, .long x2), (6, .int x6), (7, .int x7)]) C dX4_apartBy_62 ex5_7 (by decide) rfl ?_
        obtain ⟨x7_8, ex7_8, h⟩ := ltv_ex h
        refine G.iinc (L' := [(7, .int x7_8), (5, .int x5_7), (8, .int x8_1), (0, .ref (eA E 45)), (1, .int x1), (2, .long x2), (6, .int x6)]) C 6 dX4_apartBy_64 rfl (ex7_8.trans rfl) (by decide) rfl ?_
        refine G.goto (tgt := 20) C dX4_apartBy_67 (by decide) ?_
        exact G.sub [3, 4, 5, 1, 6, 0] rfl (hk_20 _ _ _ _ _ _  h)
def b_X4_apartBy_45_20 : Nat → Int32 → Int64 → Int32 → Int32 → Int32 → Mm → Option Int32
  | 0, _, _, _, _, _, _ => none
  | n + 1, x1, x2, x5, x6, x7, M => bb_X4_apartBy_45_20 (b_X4_apartBy_45_20 n) x1 x2 x5 x6 x7 M
set_option maxHeartbeats 4000000 in
theorem g_X4_apartBy_45_20  {n : Nat} {x1 : Int32} {x2 : Int64} {x5 : Int32} {x6 : Int32} {x7 : Int32} {M : Mm} {v : Int32} (hE : Has shC (eH E)) (C : Cx RX4 cX4_apartBy 9 p (rmD 2) s m args meth c E) (hr : meth.sig.returnType = (some .int)) (h : b_X4_apartBy_45_20 n x1 x2 x5 x6 x7 M = some v) : G p l e (rmD 2) s m args below meth c E 9 0 0 (QR below args s E 0 0 (some (.int v)) M) 20 [(0, .ref (eA E 45)), (1, .int x1), (2, .long x2), (5, .int x5), (6, .int x6), (7, .int x7)] [] M := by
  induction n generalizing x1 x2 x5 x6 x7 M with
  | zero => cases h
  | succ n ih => exact gb_X4_apartBy_45_20 hE C hr (fun _ _ _ _ _ _ => ih)  h
def bb_X4_apartBy_45_0 (x1 : Int32) (x2 : Int64) (x4 : Int32) (M : Mm) : Option Int32 := if x4 = 0 then (b_X4_apartBy_45_20 FU x1 x2 (64 : Int32) (4 : Int32) (0 : Int32) M) else (b_X4_apartBy_45_20 FU x1 x2 (64 : Int32) (8 : Int32) (0 : Int32) M)
set_option maxHeartbeats 4000000 in
set_option maxRecDepth 100000 in
theorem gb_X4_apartBy_45_0  {x1 : Int32} {x2 : Int64} {x4 : Int32} {M : Mm} {v : Int32} (hE : Has shC (eH E)) (C : Cx RX4 cX4_apartBy 9 p (rmD 2) s m args meth c E) (hr : meth.sig.returnType = (some .int)) (h : bb_X4_apartBy_45_0 x1 x2 x4 M = some v) : G p l e (rmD 2) s m args below meth c E 9 0 0 (QR below args s E 0 0 (some (.int v)) M) 0 [(0, .ref (eA E 45)), (1, .int x1), (2, .long x2), (4, .int x4)] [] M := by
  unfold bb_X4_apartBy_45_0 at h
  refine G.bipush (v := (64 : Int32)) C dX4_apartBy_0 (by decide) ?_
  refine G.istore (L' := [(5, .int (64 : Int32)), (0, .ref (eA E 45)), (1, .int x1), (2, .long x2), (4, .int x4)]) C dX4_apartBy_2 rfl (by decide) rfl ?_
  refine G.iload C 4 dX4_apartBy_4 rfl ?_
  refine G.if_eq (tgt := 14) C dX4_apartBy_6 (by decide) (fun hc => ?_) (fun hc => ?_)
  · have h := it_t h hc
    refine G.iconst (v := (4 : Int32)) C dX4_apartBy_14 (by decide) ?_
    refine G.istore (L' := [(6, .int (4 : Int32)), (5, .int (64 : Int32)), (0, .ref (eA E 45)), (1, .int x1), (2, .long x2), (4, .int x4)]) C dX4_apartBy_15 rfl (by decide) rfl ?_
    refine G.iconst (v := (0 : Int32)) C dX4_apartBy_17 (by decide) ?_
    refine G.istore (L' := [(7, .int (0 : Int32)), (6, .int (4 : Int32)), (5, .int (64 : Int32)), (0, .ref (eA E 45)), (1, .int x1), (2, .long x2), (4, .int x4)]) C dX4_apartBy_18 rfl (by decide) rfl ?_
    exact G.sub [3, 4, 5, 2, 1, 0] rfl (g_X4_apartBy_45_20 hE C hr  h)
  · have h := it_f h hc
    refine G.bipush (v := (8 : Int32)) C dX4_apartBy_9 (by decide) ?_
    refine G.goto (tgt := 15) C dX4_apartBy_11 (by decide) ?_
    refine G.istore (L' := [(6, .int (8 : Int32)), (5, .int (64 : Int32)), (0, .ref (eA E 45)), (1, .int x1), (2, .long x2), (4, .int x4)]) C dX4_apartBy_15 rfl (by decide) rfl ?_
    refine G.iconst (v := (0 : Int32)) C dX4_apartBy_17 (by decide) ?_
    refine G.istore (L' := [(7, .int (0 : Int32)), (6, .int (8 : Int32)), (5, .int (64 : Int32)), (0, .ref (eA E 45)), (1, .int x1), (2, .long x2), (4, .int x4)]) C dX4_apartBy_18 rfl (by decide) rfl ?_
    exact G.sub [3, 4, 5, 2, 1, 0] rfl (g_X4_apartBy_45_20 hE C hr  h)
def f_X4_apartBy_45 (x1 : Int32) (x2 : Int64) (x4 : Int32) (M : Mm) : Option Int32 := bb_X4_apartBy_45_0 x1 x2 x4 M
theorem s_X4_apartBy_45 {l : Launch} {E : Ev} {x1 : Int32} {x2 : Int64} {x4 : Int32} {M : Mm} {v : Int32} (hE : Has shC (eH E)) (h : f_X4_apartBy_45 x1 x2 x4 M = some v) : MetA l yX4_apartBy cX4_apartBy 9 (some .int) 2 E [.ref (eA E 45), .int x1, .long x2, .int x4] M (some (.int v)) M := by
  refine MetA.of (by decide +kernel) (Nat.le_of_ble_eq_true rfl) ?_
  intro p e s m below meth c C hr hnm
  exact G.sub [0, 1, 2, 3] rfl (gb_X4_apartBy_45_0 hE C hr  h)
def bb_X5_isNear_44_0 (x1 : Int32) (x2 : Int32) (x3 : Int32) (x4 : Int32) (M : Mm) : Option Int32 := gd (inb ((8 : Int32) * x2) 64) (bd (f_X4_apartBy_45 x1 (M.2 45 (ix ((8 : Int32) * x2))) x4 M) fun v_3 => if x3 < v_3 then (some (0 : Int32)) else (some (1 : Int32)))
set_option maxHeartbeats 4000000 in
set_option maxRecDepth 100000 in
theorem gb_X5_isNear_44_0  {x1 : Int32} {x2 : Int32} {x3 : Int32} {x4 : Int32} {M : Mm} {v : Int32} (hE : Has shC (eH E)) (C : Cx RX5 cX5_isNear 5 p (rmD 3) s m args meth c E) (hr : meth.sig.returnType = (some .boolean)) (h : bb_X5_isNear_44_0 x1 x2 x3 x4 M = some v) : G p l e (rmD 3) s m args below meth c E 5 0 0 (QR below args s E 0 0 (some (.int v)) M) 0 [(0, .ref (eA E 44)), (1, .int x1), (2, .int x2), (3, .int x3), (4, .int x4)] [] M := by
  unfold bb_X5_isNear_44_0 at h
  refine G.aload_n C 0 dX5_isNear_0 rfl rfl ?_
  refine G.getR (k := 0) C k_X5 (sc_44 hE) rfl (by decide) tg_342 dX5_isNear_1 ?_
  refine G.iload_n C 1 dX5_isNear_4 rfl rfl ?_
  refine G.aload_n C 0 dX5_isNear_5 rfl rfl ?_
  refine G.getR (k := 0) C k_X5 (sc_44 hE) rfl (by decide) tg_342 dX5_isNear_6 ?_
  refine G.bipush (v := (8 : Int32)) C dX5_isNear_9 (by decide) ?_
  refine G.iload_n C 2 dX5_isNear_11 rfl rfl ?_
  refine G.imul C dX5_isNear_12 ?_
  obtain ⟨hg_1, h⟩ := gd_ex h
  refine G.aJ (j := ix ((8 : Int32) * x2)) C (sc_45 hE) hg_1 rfl dX5_isNear_13 ?_
  refine G.iload C 4 dX5_isNear_14 rfl ?_
  obtain ⟨v_3, hv_2, h⟩ := bd_ex h
  refine G.callS (rest := []) C (s_X4_apartBy_45 hE  hv_2) ⟨tg_971, tg_101, ok_X4_apartBy, Nat.le_of_ble_eq_true rfl, Nat.le_of_ble_eq_true rfl⟩ tg_1328 tg_970 rfl (Nat.le_of_ble_eq_true rfl) dX5_isNear_16 ⟨Nat.le_refl 0, Nat.le_refl 0⟩ ?_
  refine G.iload_n C 3 dX5_isNear_19 rfl rfl ?_
  refine G.icmp_gt (tgt := 27) C dX5_isNear_20 (by decide) (fun hc => ?_) (fun hc => ?_)
  · have h := it_t h hc
    refine G.iconst (v := (0 : Int32)) C dX5_isNear_27 (by decide) ?_
    cases h
    exact G.zret C hr rfl dX5_isNear_28
  · have h := it_f h hc
    refine G.iconst (v := (1 : Int32)) C dX5_isNear_23 (by decide) ?_
    refine G.goto (tgt := 28) C dX5_isNear_24 (by decide) ?_
    cases h
    exact G.zret C hr rfl dX5_isNear_28
def f_X5_isNear_44 (x1 : Int32) (x2 : Int32) (x3 : Int32) (x4 : Int32) (M : Mm) : Option Int32 := bb_X5_isNear_44_0 x1 x2 x3 x4 M
theorem s_X5_isNear_44 {l : Launch} {E : Ev} {x1 : Int32} {x2 : Int32} {x3 : Int32} {x4 : Int32} {M : Mm} {v : Int32} (hE : Has shC (eH E)) (h : f_X5_isNear_44 x1 x2 x3 x4 M = some v) : MetA l yX5_isNear cX5_isNear 5 (some .boolean) 3 E [.ref (eA E 44), .int x1, .int x2, .int x3, .int x4] M (some (.int v)) M := by
  refine MetA.of (by decide +kernel) (Nat.le_of_ble_eq_true rfl) ?_
  intro p e s m below meth c C hr hnm
  exact G.sub [0, 1, 2, 3, 4] rfl (gb_X5_isNear_44_0 hE C hr  h)
def bb_X5_lay_44_50_105 (k_70 : Int32 → Int32 → Int32 → Int32 → Mm → Option Mm) (x2 : Int32) (x3 : Int32) (x4 : Int32) (x5 : Int32) (M : Mm) : Option Mm := gd (inb x4 8) (gd (inb x4 8) (ltv (wI M 46 (ix x4) ((M.1 46 (ix x4)) ||| (shI (1 : Int32) x5))) fun M_16 => ltv (x5 + (1 : Int32)) fun x5_17 => k_70 x2 x3 x4 x5_17 M_16))
set_option maxHeartbeats 4000000 in
set_option maxRecDepth 100000 in
theorem gb_X5_lay_44_50_105  {k_70 : Int32 → Int32 → Int32 → Int32 → Mm → Option Mm} {x2 : Int32} {x3 : Int32} {x4 : Int32} {x5 : Int32} {M : Mm} {M' : Mm} (hE : Has shC (eH E)) (C : Cx RX5 cX5_lay 6 p (rmD 4) s m args meth c E) (hr : meth.sig.returnType = none) (hk_70 : ∀ (x2 : Int32) (x3 : Int32) (x4 : Int32) (x5 : Int32) (M : Mm), k_70 x2 x3 x4 x5 M = some M' → G p l e (rmD 4) s m args below meth c E 6 0 0 (QR below args s E 0 0 none M') 70 [(0, .ref (eA E 44)), (2, .int x2), (3, .int x3), (4, .int x4), (5, .int x5)] [] M) (h : bb_X5_lay_44_50_105 k_70 x2 x3 x4 x5 M = some M') : G p l e (rmD 4) s m args below meth c E 6 0 0 (QR below args s E 0 0 none M') 105 [(0, .ref (eA E 44)), (2, .int x2), (3, .int x3), (4, .int x4), (5, .int x5)] [] M := by
  unfold bb_X5_lay_44_50_105 at h
  refine G.aload_n C 0 dX5_lay_105 rfl rfl ?_
  refine G.getR (k := 1) C k_X5 (sc_44 hE) rfl (by decide) tg_343 dX5_lay_106 ?_
  refine G.iload C 3 dX5_lay_109 rfl ?_
  refine G.dup2_11 C dX5_lay_111 rfl rfl ?_
  obtain ⟨hg_14, h⟩ := gd_ex h
  refine G.aI (j := ix x4) C (sc_46 hE) hg_14 rfl dX5_lay_112 ?_
  refine G.iconst (v := (1 : Int32)) C dX5_lay_113 (by decide) ?_
  refine G.iload C 4 dX5_lay_114 rfl ?_
  refine G.isl C dX5_lay_116 ?_
  refine G.ior C dX5_lay_117 ?_
  obtain ⟨hg_15, h⟩ := gd_ex h
  obtain ⟨M_16, eM_16, h⟩ := ltv_ex h
  refine G.sI (j := (ix x4)) C (sc_46 hE) hg_15 rfl dX5_lay_118 eM_16 ?_
  obtain ⟨x5_17, ex5_17, h⟩ := ltv_ex h
  refine G.iinc (L' := [(5, .int x5_17), (0, .ref (eA E 44)), (2, .int x2), (3, .int x3), (4, .int x4)]) C 4 dX5_lay_119 rfl (ex5_17.trans rfl) (by decide) rfl ?_
  refine G.goto (tgt := 70) C dX5_lay_122 (by decide) ?_
  exact G.sub [1, 2, 3, 4, 0] rfl (hk_70 _ _ _ _ _  h)
def bb_X5_lay_44_50_70 (k_50 : Int32 → Int32 → Int32 → Mm → Option Mm) (k_70 : Int32 → Int32 → Int32 → Int32 → Mm → Option Mm) (x2 : Int32) (x3 : Int32) (x4 : Int32) (x5 : Int32) (M : Mm) : Option Mm := if (M.1 44 5) ≤ x5 then (ltv (x4 + (1 : Int32)) fun x4_8 => k_50 x2 x3 x4_8 M) else (bd (f_X5_isNear_44 x4 x5 x2 x3 M) fun v_10 => if v_10 = 0 then (bd (f_X5_isNear_44 x5 x4 x2 x3 M) fun v_12 => if v_12 = 0 then (ltv (x5 + (1 : Int32)) fun x5_13 => k_70 x2 x3 x4 x5_13 M) else (bb_X5_lay_44_50_105 k_70 x2 x3 x4 x5 M)) else (bb_X5_lay_44_50_105 k_70 x2 x3 x4 x5 M))
set_option maxHeartbeats 4000000 in
set_option maxRecDepth 100000 in
theorem gb_X5_lay_44_50_70  {k_50 : Int32 → Int32 → Int32 → Mm → Option Mm} {k_70 : Int32 → Int32 → Int32 → Int32 → Mm → Option Mm} {x2 : Int32} {x3 : Int32} {x4 : Int32} {x5 : Int32} {M : Mm} {M' : Mm} (hE : Has shC (eH E)) (C : Cx RX5 cX5_lay 6 p (rmD 4) s m args meth c E) (hr : meth.sig.returnType = none) (hk_50 : ∀ (x2 : Int32) (x3 : Int32) (x4 : Int32) (M : Mm), k_50 x2 x3 x4 M = some M' → G p l e (rmD 4) s m args below meth c E 6 0 0 (QR below args s E 0 0 none M') 50 [(0, .ref (eA E 44)), (2, .int x2), (3, .int x3), (4, .int x4)] [] M) (hk_70 : ∀ (x2 : Int32) (x3 : Int32) (x4 : Int32) (x5 : Int32) (M : Mm), k_70 x2 x3 x4 x5 M = some M' → G p l e (rmD 4) s m args below meth c E 6 0 0 (QR below args s E 0 0 none M') 70 [(0, .ref (eA E 44)), (2, .int x2), (3, .int x3), (4, .int x4), (5, .int x5)] [] M) (h : bb_X5_lay_44_50_70 k_50 k_70 x2 x3 x4 x5 M = some M') : G p l e (rmD 4) s m args below meth c E 6 0 0 (QR below args s E 0 0 none M') 70 [(0, .ref (eA E 44)), (2, .int x2), (3, .int x3), (4, .int x4), (5, .int x5)] [] M := by
  unfold bb_X5_lay_44_50_70 at h
  refine G.iload C 4 dX5_lay_70 rfl ?_
  refine G.aload_n C 0 dX5_lay_72 rfl rfl ?_
  refine G.getI (k := 5) C k_X5 (sc_44 hE) rfl (by decide) tg_347 dX5_lay_73 ?_
  refine G.icmp_ge (tgt := 125) C dX5_lay_76 (by decide) (fun hc => ?_) (fun hc => ?_)
  · have h := it_t h hc
    obtain ⟨x4_8, ex4_8, h⟩ := ltv_ex h
    refine G.iinc (L' := [(4, .int x4_8), (0, .ref (eA E 44)), (2, .int x2), (3, .int x3), (5, .int x5)]) C 3 dX5_lay_125 rfl (ex4_8.trans rfl) (by decide) rfl ?_
    refine G.goto (tgt := 50) C dX5_lay_128 (by decide) ?_
    exact G.sub [1, 2, 3, 0] rfl (hk_50 _ _ _ _  h)
  · have h := it_f h hc
    refine G.aload_n C 0 dX5_lay_79 rfl rfl ?_
    refine G.iload C 3 dX5_lay_80 rfl ?_
    refine G.iload C 4 dX5_lay_82 rfl ?_
    refine G.iload_n C 1 dX5_lay_84 rfl rfl ?_
    refine G.iload_n C 2 dX5_lay_85 rfl rfl ?_
    obtain ⟨v_10, hv_9, h⟩ := bd_ex h
    refine G.callV (rest := []) C (s_X5_isNear_44 hE  hv_9) ⟨tg_1327, tg_97, ok_X5_isNear, Nat.le_of_ble_eq_true rfl, Nat.le_of_ble_eq_true rfl⟩ tg_1324 tg_1326 tg_41 (sc_44 hE) rfl rfl (Nat.le_of_ble_eq_true rfl) dX5_lay_86 ⟨Nat.le_refl 0, Nat.le_refl 0⟩ ?_
    refine G.if_ne (tgt := 105) C dX5_lay_89 (by decide) (fun hc => ?_) (fun hc => ?_)
    · have h := it_f h hc
      exact G.sub [0, 1, 2, 3, 4] rfl (gb_X5_lay_44_50_105 hE C hr hk_70  h)
    · have h := it_t h hc
      refine G.aload_n C 0 dX5_lay_92 rfl rfl ?_
      refine G.iload C 4 dX5_lay_93 rfl ?_
      refine G.iload C 3 dX5_lay_95 rfl ?_
      refine G.iload_n C 1 dX5_lay_97 rfl rfl ?_
      refine G.iload_n C 2 dX5_lay_98 rfl rfl ?_
      obtain ⟨v_12, hv_11, h⟩ := bd_ex h
      refine G.callV (rest := []) C (s_X5_isNear_44 hE  hv_11) ⟨tg_1327, tg_97, ok_X5_isNear, Nat.le_of_ble_eq_true rfl, Nat.le_of_ble_eq_true rfl⟩ tg_1324 tg_1326 tg_41 (sc_44 hE) rfl rfl (Nat.le_of_ble_eq_true rfl) dX5_lay_99 ⟨Nat.le_refl 0, Nat.le_refl 0⟩ ?_
      refine G.if_eq (tgt := 119) C dX5_lay_102 (by decide) (fun hc => ?_) (fun hc => ?_)
      · have h := it_t h hc
        obtain ⟨x5_13, ex5_13, h⟩ := ltv_ex h
        refine G.iinc (L' := [(5, .int x5_13), (0, .ref (eA E 44)), (2, .int x2), (3, .int x3), (4, .int x4)]) C 4 dX5_lay_119 rfl (ex5_13.trans rfl) (by decide) rfl ?_
        refine G.goto (tgt := 70) C dX5_lay_122 (by decide) ?_
        exact G.sub [1, 2, 3, 4, 0] rfl (hk_70 _ _ _ _ _  h)
      · have h := it_f h hc
        exact G.sub [0, 1, 2, 3, 4] rfl (gb_X5_lay_44_50_105 hE C hr hk_70  h)
def b_X5_lay_44_50_70 (k_50 : Int32 → Int32 → Int32 → Mm → Option Mm) : Nat → Int32 → Int32 → Int32 → Int32 → Mm → Option Mm
  | 0, _, _, _, _, _ => none
  | n + 1, x2, x3, x4, x5, M => bb_X5_lay_44_50_70 k_50 (b_X5_lay_44_50_70 k_50 n) x2 x3 x4 x5 M
set_option maxHeartbeats 4000000 in
theorem g_X5_lay_44_50_70  {k_50 : Int32 → Int32 → Int32 → Mm → Option Mm} {n : Nat} {x2 : Int32} {x3 : Int32} {x4 : Int32} {x5 : Int32} {M : Mm} {M' : Mm} (hE : Has shC (eH E)) (C : Cx RX5 cX5_lay 6 p (rmD 4) s m args meth c E) (hr : meth.sig.returnType = none) (hk_50 : ∀ (x2 : Int32) (x3 : Int32) (x4 : Int32) (M : Mm), k_50 x2 x3 x4 M = some M' → G p l e (rmD 4) s m args below meth c E 6 0 0 (QR below args s E 0 0 none M') 50 [(0, .ref (eA E 44)), (2, .int x2), (3, .int x3), (4, .int x4)] [] M) (h : b_X5_lay_44_50_70 k_50 n x2 x3 x4 x5 M = some M') : G p l e (rmD 4) s m args below meth c E 6 0 0 (QR below args s E 0 0 none M') 70 [(0, .ref (eA E 44)), (2, .int x2), (3, .int x3), (4, .int x4), (5, .int x5)] [] M := by
  induction n generalizing x2 x3 x4 x5 M with
  | zero => cases h
  | succ n ih => exact gb_X5_lay_44_50_70 hE C hr hk_50 (fun _ _ _ _ _ => ih)  h
def bb_X5_lay_44_50_50 (k_50 : Int32 → Int32 → Int32 → Mm → Option Mm) (x2 : Int32) (x3 : Int32) (x4 : Int32) (M : Mm) : Option Mm := if (M.1 44 5) ≤ x4 then (some M) else (gd (inb x4 8) (ltv (wI M 46 (ix x4) (0 : Int32)) fun M_7 => b_X5_lay_44_50_70 k_50 FU x2 x3 x4 (0 : Int32) M_7))
set_option maxHeartbeats 4000000 in
set_option maxRecDepth 100000 in
theorem gb_X5_lay_44_50_50  {k_50 : Int32 → Int32 → Int32 → Mm → Option Mm} {x2 : Int32} {x3 : Int32} {x4 : Int32} {M : Mm} {M' : Mm} (hE : Has shC (eH E)) (C : Cx RX5 cX5_lay 6 p (rmD 4) s m args meth c E) (hr : meth.sig.returnType = none) (hk_50 : ∀ (x2 : Int32) (x3 : Int32) (x4 : Int32) (M : Mm), k_50 x2 x3 x4 M = some M' → G p l e (rmD 4) s m args below meth c E 6 0 0 (QR below args s E 0 0 none M') 50 [(0, .ref (eA E 44)), (2, .int x2), (3, .int x3), (4, .int x4)] [] M) (h : bb_X5_lay_44_50_50 k_50 x2 x3 x4 M = some M') : G p l e (rmD 4) s m args below meth c E 6 0 0 (QR below args s E 0 0 none M') 50 [(0, .ref (eA E 44)), (2, .int x2), (3, .int x3), (4, .int x4)] [] M := by
  unfold bb_X5_lay_44_50_50 at h
  refine G.iload C 3 dX5_lay_50 rfl ?_
  refine G.aload_n C 0 dX5_lay_52 rfl rfl ?_
  refine G.getI (k := 5) C k_X5 (sc_44 hE) rfl (by decide) tg_347 dX5_lay_53 ?_
  refine G.icmp_ge (tgt := 131) C dX5_lay_56 (by decide) (fun hc => ?_) (fun hc => ?_)
  · have h := it_t h hc
    cases h
    exact G.vret C hr dX5_lay_131
  · have h := it_f h hc
    refine G.aload_n C 0 dX5_lay_59 rfl rfl ?_
    refine G.getR (k := 1) C k_X5 (sc_44 hE) rfl (by decide) tg_343 dX5_lay_60 ?_
    refine G.iload C 3 dX5_lay_63 rfl ?_
    refine G.iconst (v := (0 : Int32)) C dX5_lay_65 (by decide) ?_
    obtain ⟨hg_6, h⟩ := gd_ex h
    obtain ⟨M_7, eM_7, h⟩ := ltv_ex h
    refine G.sI (j := (ix x4)) C (sc_46 hE) hg_6 rfl dX5_lay_66 eM_7 ?_
    refine G.iconst (v := (0 : Int32)) C dX5_lay_67 (by decide) ?_
    refine G.istore (L' := [(5, .int (0 : Int32)), (0, .ref (eA E 44)), (2, .int x2), (3, .int x3), (4, .int x4)]) C dX5_lay_68 rfl (by decide) rfl ?_
    exact G.sub [1, 2, 3, 4, 0] rfl (g_X5_lay_44_50_70 hE C hr hk_50  h)
def b_X5_lay_44_50_50 : Nat → Int32 → Int32 → Int32 → Mm → Option Mm
  | 0, _, _, _, _ => none
  | n + 1, x2, x3, x4, M => bb_X5_lay_44_50_50 (b_X5_lay_44_50_50 n) x2 x3 x4 M
set_option maxHeartbeats 4000000 in
theorem g_X5_lay_44_50_50  {n : Nat} {x2 : Int32} {x3 : Int32} {x4 : Int32} {M : Mm} {M' : Mm} (hE : Has shC (eH E)) (C : Cx RX5 cX5_lay 6 p (rmD 4) s m args meth c E) (hr : meth.sig.returnType = none) (h : b_X5_lay_44_50_50 n x2 x3 x4 M = some M') : G p l e (rmD 4) s m args below meth c E 6 0 0 (QR below args s E 0 0 none M') 50 [(0, .ref (eA E 44)), (2, .int x2), (3, .int x3), (4, .int x4)] [] M := by
  induction n generalizing x2 x3 x4 M with
  | zero => cases h
  | succ n ih => exact gb_X5_lay_44_50_50 hE C hr (fun _ _ _ _ => ih)  h
def bb_X5_lay_44_50_16 (k_16 : Int32 → Int32 → Int32 → Mm → Option Mm) (x2 : Int32) (x3 : Int32) (x4 : Int32) (M : Mm) : Option Mm := if (M.1 44 5) ≤ x4 then (b_X5_lay_44_50_50 FU x2 x3 (0 : Int32) M) else (gd (inb x4 8) (bd (f_X4_turnsInto_45 (M.2 53 (ix x4)) x4 M) fun M_4 => ltv (x4 + (1 : Int32)) fun x4_5 => k_16 x2 x3 x4_5 M_4))
set_option maxHeartbeats 4000000 in
set_option maxRecDepth 100000 in
theorem gb_X5_lay_44_50_16  {k_16 : Int32 → Int32 → Int32 → Mm → Option Mm} {x2 : Int32} {x3 : Int32} {x4 : Int32} {M : Mm} {M' : Mm} (hE : Has shC (eH E)) (C : Cx RX5 cX5_lay 6 p (rmD 4) s m args meth c E) (hr : meth.sig.returnType = none) (hk_16 : ∀ (x2 : Int32) (x3 : Int32) (x4 : Int32) (M : Mm), k_16 x2 x3 x4 M = some M' → G p l e (rmD 4) s m args below meth c E 6 0 0 (QR below args s E 0 0 none M') 16 [(0, .ref (eA E 44)), (1, .ref (eA E 50)), (2, .int x2), (3, .int x3), (4, .int x4)] [] M) (h : bb_X5_lay_44_50_16 k_16 x2 x3 x4 M = some M') : G p l e (rmD 4) s m args below meth c E 6 0 0 (QR below args s E 0 0 none M') 16 [(0, .ref (eA E 44)), (1, .ref (eA E 50)), (2, .int x2), (3, .int x3), (4, .int x4)] [] M := by
  unfold bb_X5_lay_44_50_16 at h
  refine G.iload C 4 dX5_lay_16 rfl ?_
  refine G.aload_n C 0 dX5_lay_18 rfl rfl ?_
  refine G.getI (k := 5) C k_X5 (sc_44 hE) rfl (by decide) tg_347 dX5_lay_19 ?_
  refine G.icmp_ge (tgt := 47) C dX5_lay_22 (by decide) (fun hc => ?_) (fun hc => ?_)
  · have h := it_t h hc
    refine G.iconst (v := (0 : Int32)) C dX5_lay_47 (by decide) ?_
    refine G.istore (L' := [(4, .int (0 : Int32)), (0, .ref (eA E 44)), (1, .ref (eA E 50)), (2, .int x2), (3, .int x3)]) C dX5_lay_48 rfl (by decide) rfl ?_
    exact G.sub [1, 3, 4, 0] rfl (g_X5_lay_44_50_50 hE C hr  h)
  · have h := it_f h hc
    refine G.aload_n C 1 dX5_lay_25 rfl rfl ?_
    refine G.getRN (k := 6) C k_X0 (sc_50 hE) rfl (by decide) tw_379 dX5_lay_26 ?_
    refine G.iload C 4 dX5_lay_29 rfl ?_
    obtain ⟨hg_2, h⟩ := gd_ex h
    refine G.aJ (j := ix x4) C (sc_53 hE) hg_2 rfl dX5_lay_31 ?_
    refine G.aload_n C 0 dX5_lay_32 rfl rfl ?_
    refine G.getR (k := 0) C k_X5 (sc_44 hE) rfl (by decide) tg_342 dX5_lay_33 ?_
    refine G.iload C 4 dX5_lay_36 rfl ?_
    obtain ⟨M_4, hv_3, h⟩ := bd_ex h
    refine G.callS (rest := []) C (s_X4_turnsInto_45 hE  hv_3) ⟨tg_425, tg_101, ok_X4_turnsInto, Nat.le_of_ble_eq_true rfl, Nat.le_of_ble_eq_true rfl⟩ tg_1323 tg_424 rfl (Nat.le_of_ble_eq_true rfl) dX5_lay_38 ⟨Nat.le_refl 0, Nat.le_refl 0⟩ ?_
    obtain ⟨x4_5, ex4_5, h⟩ := ltv_ex h
    refine G.iinc (L' := [(4, .int x4_5), (0, .ref (eA E 44)), (1, .ref (eA E 50)), (2, .int x2), (3, .int x3)]) C 4 dX5_lay_41 rfl (ex4_5.trans rfl) (by decide) rfl ?_
    refine G.goto (tgt := 16) C dX5_lay_44 (by decide) ?_
    exact G.sub [1, 2, 3, 4, 0] rfl (hk_16 _ _ _ _  h)
def b_X5_lay_44_50_16 : Nat → Int32 → Int32 → Int32 → Mm → Option Mm
  | 0, _, _, _, _ => none
  | n + 1, x2, x3, x4, M => bb_X5_lay_44_50_16 (b_X5_lay_44_50_16 n) x2 x3 x4 M
set_option maxHeartbeats 4000000 in
theorem g_X5_lay_44_50_16  {n : Nat} {x2 : Int32} {x3 : Int32} {x4 : Int32} {M : Mm} {M' : Mm} (hE : Has shC (eH E)) (C : Cx RX5 cX5_lay 6 p (rmD 4) s m args meth c E) (hr : meth.sig.returnType = none) (h : b_X5_lay_44_50_16 n x2 x3 x4 M = some M') : G p l e (rmD 4) s m args below meth c E 6 0 0 (QR below args s E 0 0 none M') 16 [(0, .ref (eA E 44)), (1, .ref (eA E 50)), (2, .int x2), (3, .int x3), (4, .int x4)] [] M := by
  induction n generalizing x2 x3 x4 M with
  | zero => cases h
  | succ n ih => exact gb_X5_lay_44_50_16 hE C hr (fun _ _ _ _ => ih)  h
def bb_X5_lay_44_50_0 (x2 : Int32) (x3 : Int32) (M : Mm) : Option Mm := ltv (wI M 44 5 (if (8 : Int32) < (M.1 50 7) then (8 : Int32) else (M.1 50 7))) fun M_1 => b_X5_lay_44_50_16 FU x2 x3 (0 : Int32) M_1
set_option maxHeartbeats 4000000 in
set_option maxRecDepth 100000 in
theorem gb_X5_lay_44_50_0  {x2 : Int32} {x3 : Int32} {M : Mm} {M' : Mm} (hE : Has shC (eH E)) (C : Cx RX5 cX5_lay 6 p (rmD 4) s m args meth c E) (hr : meth.sig.returnType = none) (h : bb_X5_lay_44_50_0 x2 x3 M = some M') : G p l e (rmD 4) s m args below meth c E 6 0 0 (QR below args s E 0 0 none M') 0 [(0, .ref (eA E 44)), (1, .ref (eA E 50)), (2, .int x2), (3, .int x3)] [] M := by
  unfold bb_X5_lay_44_50_0 at h
  refine G.aload_n C 0 dX5_lay_0 rfl rfl ?_
  refine G.aload_n C 1 dX5_lay_1 rfl rfl ?_
  refine G.getIN (k := 7) C k_X0 (sc_50 hE) rfl (by decide) tw_380 dX5_lay_2 ?_
  refine G.bipush (v := (8 : Int32)) C dX5_lay_5 (by decide) ?_
  refine G.mmin (rest := [.ref (eA E 44)]) C tg_1322 tg_421 tg_100 tg_422 ⟨Nat.le_of_ble_eq_true rfl, Nat.le_of_ble_eq_true rfl⟩ (Nat.le_of_ble_eq_true rfl) ⟨Nat.le_refl 0, Nat.le_refl 0⟩ dX5_lay_7 ?_
  obtain ⟨M_1, eM_1, h⟩ := ltv_ex h
  refine G.putI (k := 5) C k_X5 (sc_44 hE) rfl (by decide) tg_347 rfl rfl dX5_lay_10 eM_1 ?_
  refine G.iconst (v := (0 : Int32)) C dX5_lay_13 (by decide) ?_
  refine G.istore (L' := [(4, .int (0 : Int32)), (0, .ref (eA E 44)), (1, .ref (eA E 50)), (2, .int x2), (3, .int x3)]) C dX5_lay_14 rfl (by decide) rfl ?_
  exact G.sub [1, 2, 3, 4, 0] rfl (g_X5_lay_44_50_16 hE C hr  h)
def f_X5_lay_44_50 (x2 : Int32) (x3 : Int32) (M : Mm) : Option Mm := bb_X5_lay_44_50_0 x2 x3 M
theorem s_X5_lay_44_50 {l : Launch} {E : Ev} {x2 : Int32} {x3 : Int32} {M : Mm} {M' : Mm} (hE : Has shC (eH E)) (h : f_X5_lay_44_50 x2 x3 M = some M') : MetA l yX5_lay cX5_lay 6 none 4 E [.ref (eA E 44), .ref (eA E 50), .int x2, .int x3] M none M' := by
  refine MetA.of (by decide +kernel) (Nat.le_of_ble_eq_true rfl) ?_
  intro p e s m below meth c C hr hnm
  exact G.sub [0, 1, 2, 3] rfl (gb_X5_lay_44_50_0 hE C hr  h)
def bb_X5_areKin_44_0 (x1 : Int32) (x2 : Int32) (M : Mm) : Option Int32 := if x1 < 0 then (some (0 : Int32)) else (if (M.1 44 5) ≤ x1 then (some (0 : Int32)) else (gd (inb x1 8) (if ((M.1 46 (ix x1)) &&& (shI (1 : Int32) x2)) = 0 then (some (0 : Int32)) else (some (1 : Int32)))))
set_option maxHeartbeats 4000000 in
set_option maxRecDepth 100000 in
theorem gb_X5_areKin_44_0  {x1 : Int32} {x2 : Int32} {M : Mm} {v : Int32} (hE : Has shC (eH E)) (C : Cx RX5 cX5_areKin 3 p (rmD 1) s m args meth c E) (hr : meth.sig.returnType = (some .boolean)) (h : bb_X5_areKin_44_0 x1 x2 M = some v) : G p l e (rmD 1) s m args below meth c E 3 0 0 (QR below args s E 0 0 (some (.int v)) M) 0 [(0, .ref (eA E 44)), (1, .int x1), (2, .int x2)] [] M := by
  unfold bb_X5_areKin_44_0 at h
  refine G.iload_n C 1 dX5_areKin_0 rfl rfl ?_
  refine G.if_lt (tgt := 29) C dX5_areKin_1 (by decide) (fun hc => ?_) (fun hc => ?_)
  · have h := it_t h hc
    refine G.iconst (v := (0 : Int32)) C dX5_areKin_29 (by decide) ?_
    cases h
    exact G.zret C hr rfl dX5_areKin_30
  · have h := it_f h hc
    refine G.iload_n C 1 dX5_areKin_4 rfl rfl ?_
    refine G.aload_n C 0 dX5_areKin_5 rfl rfl ?_
    refine G.getI (k := 5) C k_X5 (sc_44 hE) rfl (by decide) tg_347 dX5_areKin_6 ?_
    refine G.icmp_ge (tgt := 29) C dX5_areKin_9 (by decide) (fun hc => ?_) (fun hc => ?_)
    · have h := it_t h hc
      refine G.iconst (v := (0 : Int32)) C dX5_areKin_29 (by decide) ?_
      cases h
      exact G.zret C hr rfl dX5_areKin_30
    · have h := it_f h hc
      refine G.aload_n C 0 dX5_areKin_12 rfl rfl ?_
      refine G.getR (k := 1) C k_X5 (sc_44 hE) rfl (by decide) tg_343 dX5_areKin_13 ?_
      refine G.iload_n C 1 dX5_areKin_16 rfl rfl ?_
      obtain ⟨hg_1, h⟩ := gd_ex h
      refine G.aI (j := ix x1) C (sc_46 hE) hg_1 rfl dX5_areKin_17 ?_
      refine G.iconst (v := (1 : Int32)) C dX5_areKin_18 (by decide) ?_
      refine G.iload_n C 2 dX5_areKin_19 rfl rfl ?_
      refine G.isl C dX5_areKin_20 ?_
      refine G.iand C dX5_areKin_21 ?_
      refine G.if_eq (tgt := 29) C dX5_areKin_22 (by decide) (fun hc => ?_) (fun hc => ?_)
      · have h := it_t h hc
        refine G.iconst (v := (0 : Int32)) C dX5_areKin_29 (by decide) ?_
        cases h
        exact G.zret C hr rfl dX5_areKin_30
      · have h := it_f h hc
        refine G.iconst (v := (1 : Int32)) C dX5_areKin_25 (by decide) ?_
        refine G.goto (tgt := 30) C dX5_areKin_26 (by decide) ?_
        cases h
        exact G.zret C hr rfl dX5_areKin_30
def f_X5_areKin_44 (x1 : Int32) (x2 : Int32) (M : Mm) : Option Int32 := bb_X5_areKin_44_0 x1 x2 M
theorem s_X5_areKin_44 {l : Launch} {E : Ev} {x1 : Int32} {x2 : Int32} {M : Mm} {v : Int32} (hE : Has shC (eH E)) (h : f_X5_areKin_44 x1 x2 M = some v) : MetA l yX5_areKin cX5_areKin 3 (some .boolean) 1 E [.ref (eA E 44), .int x1, .int x2] M (some (.int v)) M := by
  refine MetA.of (by decide +kernel) (Nat.le_of_ble_eq_true rfl) ?_
  intro p e s m below meth c C hr hnm
  exact G.sub [0, 1, 2] rfl (gb_X5_areKin_44_0 hE C hr  h)
def bb_X5_alwaysAlone_44_4 (k_4 : Int32 → Int32 → Mm → Option Int32) (x1 : Int32) (x2 : Int32) (M : Mm) : Option Int32 := if (M.1 44 5) ≤ x2 then (some x1) else (gd (inb x2 8) (if (M.1 46 (ix x2)) = (shI (1 : Int32) x2) then (ltv (x1 ||| (shI (1 : Int32) x2)) fun x1_3 => ltv (x2 + (1 : Int32)) fun x2_4 => k_4 x1_3 x2_4 M) else (ltv (x2 + (1 : Int32)) fun x2_2 => k_4 x1 x2_2 M)))
set_option maxHeartbeats 4000000 in
set_option maxRecDepth 100000 in
theorem gb_X5_alwaysAlone_44_4  {k_4 : Int32 → Int32 → Mm → Option Int32} {x1 : Int32} {x2 : Int32} {M : Mm} {v : Int32} (hE : Has shC (eH E)) (C : Cx RX5 cX5_alwaysAlone 3 p (rmD 1) s m args meth c E) (hr : meth.sig.returnType = (some .int)) (hk_4 : ∀ (x1 : Int32) (x2 : Int32) (M : Mm), k_4 x1 x2 M = some v → G p l e (rmD 1) s m args below meth c E 3 0 0 (QR below args s E 0 0 (some (.int v)) M) 4 [(0, .ref (eA E 44)), (1, .int x1), (2, .int x2)] [] M) (h : bb_X5_alwaysAlone_44_4 k_4 x1 x2 M = some v) : G p l e (rmD 1) s m args below meth c E 3 0 0 (QR below args s E 0 0 (some (.int v)) M) 4 [(0, .ref (eA E 44)), (1, .int x1), (2, .int x2)] [] M := by
  unfold bb_X5_alwaysAlone_44_4 at h
  refine G.iload_n C 2 dX5_alwaysAlone_4 rfl rfl ?_
  refine G.aload_n C 0 dX5_alwaysAlone_5 rfl rfl ?_
  refine G.getI (k := 5) C k_X5 (sc_44 hE) rfl (by decide) tg_347 dX5_alwaysAlone_6 ?_
  refine G.icmp_ge (tgt := 36) C dX5_alwaysAlone_9 (by decide) (fun hc => ?_) (fun hc => ?_)
  · have h := it_t h hc
    refine G.iload_n C 1 dX5_alwaysAlone_36 rfl rfl ?_
    cases h
    exact G.iret C hr dX5_alwaysAlone_37
  · have h := it_f h hc
    refine G.aload_n C 0 dX5_alwaysAlone_12 rfl rfl ?_
    refine G.getR (k := 1) C k_X5 (sc_44 hE) rfl (by decide) tg_343 dX5_alwaysAlone_13 ?_
    refine G.iload_n C 2 dX5_alwaysAlone_16 rfl rfl ?_
    obtain ⟨hg_1, h⟩ := gd_ex h
    refine G.aI (j := ix x2) C (sc_46 hE) hg_1 rfl dX5_alwaysAlone_17 ?_
    refine G.iconst (v := (1 : Int32)) C dX5_alwaysAlone_18 (by decide) ?_
    refine G.iload_n C 2 dX5_alwaysAlone_19 rfl rfl ?_
    refine G.isl C dX5_alwaysAlone_20 ?_
    refine G.icmp_ne (tgt := 30) C dX5_alwaysAlone_21 (by decide) (fun hc => ?_) (fun hc => ?_)
    · have h := it_f h hc
      obtain ⟨x2_2, ex2_2, h⟩ := ltv_ex h
      refine G.iinc (L' := [(2, .int x2_2), (0, .ref (eA E 44)), (1, .int x1)]) C 2 dX5_alwaysAlone_30 rfl (ex2_2.trans rfl) (by decide) rfl ?_
      refine G.goto (tgt := 4) C dX5_alwaysAlone_33 (by decide) ?_
      exact G.sub [1, 2, 0] rfl (hk_4 _ _ _  h)
    · have h := it_t h hc
      refine G.iload_n C 1 dX5_alwaysAlone_24 rfl rfl ?_
      refine G.iconst (v := (1 : Int32)) C dX5_alwaysAlone_25 (by decide) ?_
      refine G.iload_n C 2 dX5_alwaysAlone_26 rfl rfl ?_
      refine G.isl C dX5_alwaysAlone_27 ?_
      refine G.ior C dX5_alwaysAlone_28 ?_
      obtain ⟨x1_3, ex1_3, h⟩ := ltv_ex h
      refine G.istore_n (L' := [(1, .int x1_3), (0, .ref (eA E 44)), (2, .int x2)]) C dX5_alwaysAlone_29 rfl ex1_3 (by decide) rfl ?_
      obtain ⟨x2_4, ex2_4, h⟩ := ltv_ex h
      refine G.iinc (L' := [(2, .int x2_4), (1, .int x1_3), (0, .ref (eA E 44))]) C 2 dX5_alwaysAlone_30 rfl (ex2_4.trans rfl) (by decide) rfl ?_
      refine G.goto (tgt := 4) C dX5_alwaysAlone_33 (by decide) ?_
      exact G.sub [2, 1, 0] rfl (hk_4 _ _ _  h)
def b_X5_alwaysAlone_44_4 : Nat → Int32 → Int32 → Mm → Option Int32
  | 0, _, _, _ => none
  | n + 1, x1, x2, M => bb_X5_alwaysAlone_44_4 (b_X5_alwaysAlone_44_4 n) x1 x2 M
set_option maxHeartbeats 4000000 in
theorem g_X5_alwaysAlone_44_4  {n : Nat} {x1 : Int32} {x2 : Int32} {M : Mm} {v : Int32} (hE : Has shC (eH E)) (C : Cx RX5 cX5_alwaysAlone 3 p (rmD 1) s m args meth c E) (hr : meth.sig.returnType = (some .int)) (h : b_X5_alwaysAlone_44_4 n x1 x2 M = some v) : G p l e (rmD 1) s m args below meth c E 3 0 0 (QR below args s E 0 0 (some (.int v)) M) 4 [(0, .ref (eA E 44)), (1, .int x1), (2, .int x2)] [] M := by
  induction n generalizing x1 x2 M with
  | zero => cases h
  | succ n ih => exact gb_X5_alwaysAlone_44_4 hE C hr (fun _ _ _ => ih)  h
def bb_X5_alwaysAlone_44_0  (M : Mm) : Option Int32 := b_X5_alwaysAlone_44_4 FU (0 : Int32) (0 : Int32) M
set_option maxHeartbeats 4000000 in
set_option maxRecDepth 100000 in
theorem gb_X5_alwaysAlone_44_0   {M : Mm} {v : Int32} (hE : Has shC (eH E)) (C : Cx RX5 cX5_alwaysAlone 3 p (rmD 1) s m args meth c E) (hr : meth.sig.returnType = (some .int)) (h : bb_X5_alwaysAlone_44_0 M = some v) : G p l e (rmD 1) s m args below meth c E 3 0 0 (QR below args s E 0 0 (some (.int v)) M) 0 [(0, .ref (eA E 44))] [] M := by
  unfold bb_X5_alwaysAlone_44_0 at h
  refine G.iconst (v := (0 : Int32)) C dX5_alwaysAlone_0 (by decide) ?_
  refine G.istore_n (L' := [(1, .int (0 : Int32)), (0, .ref (eA E 44))]) C dX5_alwaysAlone_1 rfl rfl (by decide) rfl ?_
  refine G.iconst (v := (0 : Int32)) C dX5_alwaysAlone_2 (by decide) ?_
  refine G.istore_n (L' := [(2, .int (0 : Int32)), (1, .int (0 : Int32)), (0, .ref (eA E 44))]) C dX5_alwaysAlone_3 rfl rfl (by decide) rfl ?_
  exact G.sub [2, 1, 0] rfl (g_X5_alwaysAlone_44_4 hE C hr  h)
def f_X5_alwaysAlone_44  (M : Mm) : Option Int32 := bb_X5_alwaysAlone_44_0 M
theorem s_X5_alwaysAlone_44 {l : Launch} {E : Ev}  {M : Mm} {v : Int32} (hE : Has shC (eH E)) (h : f_X5_alwaysAlone_44 M = some v) : MetA l yX5_alwaysAlone cX5_alwaysAlone 3 (some .int) 1 E [.ref (eA E 44)] M (some (.int v)) M := by
  refine MetA.of (by decide +kernel) (Nat.le_of_ble_eq_true rfl) ?_
  intro p e s m below meth c C hr hnm
  exact G.sub [0] rfl (gb_X5_alwaysAlone_44_0 hE C hr  h)
def bb_X5_allPrints_44_0  (M : Mm) : Option Int32 := some ((shI (1 : Int32) (M.1 44 5)) - (1 : Int32))
set_option maxHeartbeats 4000000 in
set_option maxRecDepth 100000 in
theorem gb_X5_allPrints_44_0   {M : Mm} {v : Int32} (hE : Has shC (eH E)) (C : Cx RX5 cX5_allPrints 1 p (rmD 1) s m args meth c E) (hr : meth.sig.returnType = (some .int)) (h : bb_X5_allPrints_44_0 M = some v) : G p l e (rmD 1) s m args below meth c E 1 0 0 (QR below args s E 0 0 (some (.int v)) M) 0 [(0, .ref (eA E 44))] [] M := by
  unfold bb_X5_allPrints_44_0 at h
  refine G.iconst (v := (1 : Int32)) C dX5_allPrints_0 (by decide) ?_
  refine G.aload_n C 0 dX5_allPrints_1 rfl rfl ?_
  refine G.getI (k := 5) C k_X5 (sc_44 hE) rfl (by decide) tg_347 dX5_allPrints_2 ?_
  refine G.isl C dX5_allPrints_5 ?_
  refine G.iconst (v := (1 : Int32)) C dX5_allPrints_6 (by decide) ?_
  refine G.isub C dX5_allPrints_7 ?_
  cases h
  exact G.iret C hr dX5_allPrints_8
def f_X5_allPrints_44  (M : Mm) : Option Int32 := bb_X5_allPrints_44_0 M
theorem s_X5_allPrints_44 {l : Launch} {E : Ev}  {M : Mm} {v : Int32} (hE : Has shC (eH E)) (h : f_X5_allPrints_44 M = some v) : MetA l yX5_allPrints cX5_allPrints 1 (some .int) 1 E [.ref (eA E 44)] M (some (.int v)) M := by
  refine MetA.of (by decide +kernel) (Nat.le_of_ble_eq_true rfl) ?_
  intro p e s m below meth c C hr hnm
  exact G.sub [0] rfl (gb_X5_allPrints_44_0 hE C hr  h)
def bb_J6_bitCount_0f7a4_0 (x0 : Int32) : Option Int32 := ltv (x0 - ((ushI x0 (1 : Int32)) &&& (1431655765 : Int32))) fun x0_1 => ltv ((x0_1 &&& (858993459 : Int32)) + ((ushI x0_1 (2 : Int32)) &&& (858993459 : Int32))) fun x0_2 => ltv ((x0_2 + (ushI x0_2 (4 : Int32))) &&& (252645135 : Int32)) fun x0_3 => ltv (x0_3 + (ushI x0_3 (8 : Int32))) fun x0_4 => ltv (x0_4 + (ushI x0_4 (16 : Int32))) fun x0_5 => some (x0_5 &&& (63 : Int32))
set_option maxHeartbeats 4000000 in
set_option maxRecDepth 100000 in
theorem gb_J6_bitCount_0f7a4_0 {M : Mm}  {x0 : Int32} {v : Int32} (C : Cx RJ6 cJ6_bitCount_0f7a4 1 p (rmD 1) s m args meth c E) (hr : meth.sig.returnType = (some .int)) (h : bb_J6_bitCount_0f7a4_0 x0 = some v) : G p l e (rmD 1) s m args below meth c E 1 0 0 (QR below args s E 0 0 (some (.int v)) M) 0 [(0, .int x0)] [] M := by
  unfold bb_J6_bitCount_0f7a4_0 at h
  refine G.iload_n C 0 dJ6_bitCount_0f7a4_0 rfl rfl ?_
  refine G.iload_n C 0 dJ6_bitCount_0f7a4_1 rfl rfl ?_
  refine G.iconst (v := (1 : Int32)) C dJ6_bitCount_0f7a4_2 (by decide) ?_
  refine G.iushr (v := ushI x0 (1 : Int32)) C dJ6_bitCount_0f7a4_3 rfl ?_
  refine G.ldcw C tg_999 dJ6_bitCount_0f7a4_4 ?_
  refine G.iand C dJ6_bitCount_0f7a4_7 ?_
  refine G.isub C dJ6_bitCount_0f7a4_8 ?_
  obtain ⟨x0_1, ex0_1, h⟩ := ltv_ex h
  refine G.istore_n (L' := [(0, .int x0_1)]) C dJ6_bitCount_0f7a4_9 rfl ex0_1 (by decide) rfl ?_
  refine G.iload_n C 0 dJ6_bitCount_0f7a4_10 rfl rfl ?_
  refine G.ldcw C tg_1000 dJ6_bitCount_0f7a4_11 ?_
  refine G.iand C dJ6_bitCount_0f7a4_14 ?_
  refine G.iload_n C 0 dJ6_bitCount_0f7a4_15 rfl rfl ?_
  refine G.iconst (v := (2 : Int32)) C dJ6_bitCount_0f7a4_16 (by decide) ?_
  refine G.iushr (v := ushI x0_1 (2 : Int32)) C dJ6_bitCount_0f7a4_17 rfl ?_
  refine G.ldcw C tg_1000 dJ6_bitCount_0f7a4_18 ?_
  refine G.iand C dJ6_bitCount_0f7a4_21 ?_
  refine G.iadd C dJ6_bitCount_0f7a4_22 ?_
  obtain ⟨x0_2, ex0_2, h⟩ := ltv_ex h
  refine G.istore_n (L' := [(0, .int x0_2)]) C dJ6_bitCount_0f7a4_23 rfl ex0_2 (by decide) rfl ?_
  refine G.iload_n C 0 dJ6_bitCount_0f7a4_24 rfl rfl ?_
  refine G.iload_n C 0 dJ6_bitCount_0f7a4_25 rfl rfl ?_
  refine G.iconst (v := (4 : Int32)) C dJ6_bitCount_0f7a4_26 (by decide) ?_
  refine G.iushr (v := ushI x0_2 (4 : Int32)) C dJ6_bitCount_0f7a4_27 rfl ?_
  refine G.iadd C dJ6_bitCount_0f7a4_28 ?_
  refine G.ldcw C tg_1001 dJ6_bitCount_0f7a4_29 ?_
  refine G.iand C dJ6_bitCount_0f7a4_32 ?_
  obtain ⟨x0_3, ex0_3, h⟩ := ltv_ex h
  refine G.istore_n (L' := [(0, .int x0_3)]) C dJ6_bitCount_0f7a4_33 rfl ex0_3 (by decide) rfl ?_
  refine G.iload_n C 0 dJ6_bitCount_0f7a4_34 rfl rfl ?_
  refine G.iload_n C 0 dJ6_bitCount_0f7a4_35 rfl rfl ?_
  refine G.bipush (v := (8 : Int32)) C dJ6_bitCount_0f7a4_36 (by decide) ?_
  refine G.iushr (v := ushI x0_3 (8 : Int32)) C dJ6_bitCount_0f7a4_38 rfl ?_
  refine G.iadd C dJ6_bitCount_0f7a4_39 ?_
  obtain ⟨x0_4, ex0_4, h⟩ := ltv_ex h
  refine G.istore_n (L' := [(0, .int x0_4)]) C dJ6_bitCount_0f7a4_40 rfl ex0_4 (by decide) rfl ?_
  refine G.iload_n C 0 dJ6_bitCount_0f7a4_41 rfl rfl ?_
  refine G.iload_n C 0 dJ6_bitCount_0f7a4_42 rfl rfl ?_
  refine G.bipush (v := (16 : Int32)) C dJ6_bitCount_0f7a4_43 (by decide) ?_
  refine G.iushr (v := ushI x0_4 (16 : Int32)) C dJ6_bitCount_0f7a4_45 rfl ?_
  refine G.iadd C dJ6_bitCount_0f7a4_46 ?_
  obtain ⟨x0_5, ex0_5, h⟩ := ltv_ex h
  refine G.istore_n (L' := [(0, .int x0_5)]) C dJ6_bitCount_0f7a4_47 rfl ex0_5 (by decide) rfl ?_
  refine G.iload_n C 0 dJ6_bitCount_0f7a4_48 rfl rfl ?_
  refine G.bipush (v := (63 : Int32)) C dJ6_bitCount_0f7a4_49 (by decide) ?_
  refine G.iand C dJ6_bitCount_0f7a4_51 ?_
  cases h
  exact G.iret C hr dJ6_bitCount_0f7a4_52
def f_J6_bitCount_0f7a4 (x0 : Int32) : Option Int32 := bb_J6_bitCount_0f7a4_0 x0
theorem s_J6_bitCount_0f7a4 {l : Launch} {E : Ev} {x0 : Int32} {M : Mm} {v : Int32} (h : f_J6_bitCount_0f7a4 x0 = some v) : MetA l yJ6_bitCount_0f7a4 cJ6_bitCount_0f7a4 1 (some .int) 1 E [.int x0] M (some (.int v)) M := by
  refine MetA.of (by decide +kernel) (Nat.le_of_ble_eq_true rfl) ?_
  intro p e s m below meth c C hr hnm
  exact G.sub [0] rfl (gb_J6_bitCount_0f7a4_0 C hr  h)
def bb_X5_countSet_44_88 (x1 : Int32) (x3 : Int32) (x4 : Int32) (M : Mm) : Option Mm := gd (inb x1 256) (ltv (wI M 48 (ix x1) x3) fun M_8 => gd (inb x1 256) (ltv (wI M_8 49 (ix x1) x4) fun M_10 => some M_10))
set_option maxHeartbeats 4000000 in
set_option maxRecDepth 100000 in
theorem gb_X5_countSet_44_88  {x1 : Int32} {x3 : Int32} {x4 : Int32} {M : Mm} {M' : Mm} (hE : Has shC (eH E)) (C : Cx RX5 cX5_countSet 8 p (rmD 1) s m args meth c E) (hr : meth.sig.returnType = none) (h : bb_X5_countSet_44_88 x1 x3 x4 M = some M') : G p l e (rmD 1) s m args below meth c E 8 0 0 (QR below args s E 0 0 none M') 88 [(0, .ref (eA E 44)), (1, .int x1), (3, .int x3), (4, .int x4)] [] M := by
  unfold bb_X5_countSet_44_88 at h
  refine G.aload_n C 0 dX5_countSet_88 rfl rfl ?_
  refine G.getR (k := 3) C k_X5 (sc_44 hE) rfl (by decide) tg_345 dX5_countSet_89 ?_
  refine G.iload_n C 1 dX5_countSet_92 rfl rfl ?_
  refine G.iload_n C 2 dX5_countSet_93 rfl rfl ?_
  obtain ⟨hg_7, h⟩ := gd_ex h
  obtain ⟨M_8, eM_8, h⟩ := ltv_ex h
  refine G.sI (j := (ix x1)) C (sc_48 hE) hg_7 rfl dX5_countSet_94 eM_8 ?_
  refine G.aload_n C 0 dX5_countSet_95 rfl rfl ?_
  refine G.getR (k := 4) C k_X5 (sc_44 hE) rfl (by decide) tg_346 dX5_countSet_96 ?_
  refine G.iload_n C 1 dX5_countSet_99 rfl rfl ?_
  refine G.iload C 3 dX5_countSet_100 rfl ?_
  obtain ⟨hg_9, h⟩ := gd_ex h
  obtain ⟨M_10, eM_10, h⟩ := ltv_ex h
  refine G.sI (j := (ix x1)) C (sc_49 hE) hg_9 rfl dX5_countSet_102 eM_10 ?_
  cases h
  exact G.vret C hr dX5_countSet_103
def bb_X5_countSet_44_66 (k_12 : Int32 → Int32 → Int32 → Int32 → Int32 → Int32 → Mm → Option Mm) (x1 : Int32) (x2 : Int32) (x3 : Int32) (x4 : Int32) (x5 : Int32) (x6 : Int32) (M : Mm) : Option Mm := if x5 = 0 then (bb_X5_countSet_44_88 x1 x3 x4 M) else (ltv ((x5 - (1 : Int32)) &&& x2) fun x5_11 => ltv (x6 + (1 : Int32)) fun x6_12 => k_12 x1 x2 x3 x4 x5_11 x6_12 M)
set_option maxHeartbeats 4000000 in
set_option maxRecDepth 100000 in
theorem gb_X5_countSet_44_66  {k_12 : Int32 → Int32 → Int32 → Int32 → Int32 → Int32 → Mm → Option Mm} {x1 : Int32} {x2 : Int32} {x3 : Int32} {x4 : Int32} {x5 : Int32} {x6 : Int32} {M : Mm} {M' : Mm} (hE : Has shC (eH E)) (C : Cx RX5 cX5_countSet 8 p (rmD 1) s m args meth c E) (hr : meth.sig.returnType = none) (hk_12 : ∀ (x1 : Int32) (x2 : Int32) (x3 : Int32) (x4 : Int32) (x5 : Int32) (x6 : Int32) (M : Mm), k_12 x1 x2 x3 x4 x5 x6 M = some M' → G p l e (rmD 1) s m args below meth c E 8 0 0 (QR below args s E 0 0 none M') 12 [(0, .ref (eA E 44)), (1, .int x1), (2, .int x2), (3, .int x3), (4, .int x4), (5, .int x5), (6, .int x6)] [] M) (h : bb_X5_countSet_44_66 k_12 x1 x2 x3 x4 x5 x6 M = some M') : G p l e (rmD 1) s m args below meth c E 8 0 0 (QR below args s E 0 0 none M') 66 [(0, .ref (eA E 44)), (1, .int x1), (2, .int x2), (3, .int x3), (4, .int x4), (5, .int x5), (6, .int x6)] [] M := by
  unfold bb_X5_countSet_44_66 at h
  refine G.iload C 5 dX5_countSet_66 rfl ?_
  refine G.if_ne (tgt := 74) C dX5_countSet_68 (by decide) (fun hc => ?_) (fun hc => ?_)
  · have h := it_f h hc
    refine G.iload C 5 dX5_countSet_74 rfl ?_
    refine G.iconst (v := (1 : Int32)) C dX5_countSet_76 (by decide) ?_
    refine G.isub C dX5_countSet_77 ?_
    refine G.iload_n C 2 dX5_countSet_78 rfl rfl ?_
    refine G.iand C dX5_countSet_79 ?_
    obtain ⟨x5_11, ex5_11, h⟩ := ltv_ex h
    refine G.istore (L' := [(5, .int x5_11), (0, .ref (eA E 44)), (1, .int x1), (2, .int x2), (3, .int x3), (4, .int x4), (6, .int x6)]) C dX5_countSet_80 ex5_11 (by decide) rfl ?_
    obtain ⟨x6_12, ex6_12, h⟩ := ltv_ex h
    refine G.iinc (L' := [(6, .int x6_12), (5, .int x5_11), (0, .ref (eA E 44)), (1, .int x1), (2, .int x2), (3, .int x3), (4, .int x4)]) C 6 dX5_countSet_82 rfl (ex6_12.trans rfl) (by decide) rfl ?_
    refine G.goto (tgt := 12) C dX5_countSet_85 (by decide) ?_
    exact G.sub [2, 3, 4, 5, 6, 1, 0] rfl (hk_12 _ _ _ _ _ _ _  h)
  · have h := it_t h hc
    refine G.goto (tgt := 88) C dX5_countSet_71 (by decide) ?_
    exact G.sub [0, 1, 3, 4] rfl (gb_X5_countSet_44_88 hE C hr  h)
def bb_X5_countSet_44_12 (k_12 : Int32 → Int32 → Int32 → Int32 → Int32 → Int32 → Mm → Option Mm) (x1 : Int32) (x2 : Int32) (x3 : Int32) (x4 : Int32) (x5 : Int32) (x6 : Int32) (M : Mm) : Option Mm := if x2 < x6 then (bb_X5_countSet_44_88 x1 x3 x4 M) else (ltv (x2 &&& (x5 ^^^ (-1 : Int32))) fun x7_1 => gd (inb (x1 &&& (x7_1 ^^^ (-1 : Int32))) 256) (if (M.1 47 (ix (x1 &&& (x7_1 ^^^ (-1 : Int32))))) = 0 then (bb_X5_countSet_44_66 k_12 x1 x2 x3 x4 x5 x6 M) else (gd (inb x7_1 256) (ltv (x3 + (M.1 48 (ix x7_1))) fun x3_4 => gd (inb x7_1 256) (ltv (if ((1 : Int32) + (M.1 49 (ix x7_1))) < x4 then ((1 : Int32) + (M.1 49 (ix x7_1))) else x4) fun x4_6 => bb_X5_countSet_44_66 k_12 x1 x2 x3_4 x4_6 x5 x6 M)))))
set_option maxHeartbeats 4000000 in
set_option maxRecDepth 100000 in
theorem gb_X5_countSet_44_12  {k_12 : Int32 → Int32 → Int32 → Int32 → Int32 → Int32 → Mm → Option Mm} {x1 : Int32} {x2 : Int32} {x3 : Int32} {x4 : Int32} {x5 : Int32} {x6 : Int32} {M : Mm} {M' : Mm} (hE : Has shC (eH E)) (C : Cx RX5 cX5_countSet 8 p (rmD 1) s m args meth c E) (hr : meth.sig.returnType = none) (hk_12 : ∀ (x1 : Int32) (x2 : Int32) (x3 : Int32) (x4 : Int32) (x5 : Int32) (x6 : Int32) (M : Mm), k_12 x1 x2 x3 x4 x5 x6 M = some M' → G p l e (rmD 1) s m args below meth c E 8 0 0 (QR below args s E 0 0 none M') 12 [(0, .ref (eA E 44)), (1, .int x1), (2, .int x2), (3, .int x3), (4, .int x4), (5, .int x5), (6, .int x6)] [] M) (h : bb_X5_countSet_44_12 k_12 x1 x2 x3 x4 x5 x6 M = some M') : G p l e (rmD 1) s m args below meth c E 8 0 0 (QR below args s E 0 0 none M') 12 [(0, .ref (eA E 44)), (1, .int x1), (2, .int x2), (3, .int x3), (4, .int x4), (5, .int x5), (6, .int x6)] [] M := by
  unfold bb_X5_countSet_44_12 at h
  refine G.iload C 6 dX5_countSet_12 rfl ?_
  refine G.iload_n C 2 dX5_countSet_14 rfl rfl ?_
  refine G.icmp_gt (tgt := 88) C dX5_countSet_15 (by decide) (fun hc => ?_) (fun hc => ?_)
  · have h := it_t h hc
    exact G.sub [0, 1, 3, 4] rfl (gb_X5_countSet_44_88 hE C hr  h)
  · have h := it_f h hc
    refine G.iload_n C 2 dX5_countSet_18 rfl rfl ?_
    refine G.iload C 5 dX5_countSet_19 rfl ?_
    refine G.iconst (v := (-1 : Int32)) C dX5_countSet_21 (by decide) ?_
    refine G.ixor C dX5_countSet_22 ?_
    refine G.iand C dX5_countSet_23 ?_
    obtain ⟨x7_1, ex7_1, h⟩ := ltv_ex h
    refine G.istore (L' := [(7, .int x7_1), (0, .ref (eA E 44)), (1, .int x1), (2, .int x2), (3, .int x3), (4, .int x4), (5, .int x5), (6, .int x6)]) C dX5_countSet_24 ex7_1 (by decide) rfl ?_
    refine G.aload_n C 1 dX5_countSet_26 rfl rfl ?_
    refine G.getR (k := 2) C k_X5 (sc_44 hE) rfl (by decide) tg_344 dX5_countSet_27 ?_
    refine G.iload_n C 2 dX5_countSet_30 rfl rfl ?_
    refine G.iload C 0 dX5_countSet_31 rfl ?_
    refine G.iconst (v := (-1 : Int32)) C dX5_countSet_33 (by decide) ?_
    refine G.ixor C dX5_countSet_34 ?_
    refine G.iand C dX5_countSet_35 ?_
    obtain ⟨hg_2, h⟩ := gd_ex h
    refine G.aZ (j := ix (x1 &&& (x7_1 ^^^ (-1 : Int32)))) C (sc_47 hE) hg_2 rfl dX5_countSet_36 ?_
    refine G.if_eq (tgt := 66) C dX5_countSet_37 (by decide) (fun hc => ?_) (fun hc => ?_)
    · have h := it_t h hc
      exact G.sub [1, 2, 3, 4, 5, 6, 7] rfl (gb_X5_countSet_44_66 hE C hr hk_12  h)
    · have h := it_f h hc
      refine G.iload_n C 4 dX5_countSet_40 rfl rfl ?_
      refine G.aload_n C 1 dX5_countSet_41 rfl rfl ?_
      refine G.getR (k := 3) C k_X5 (sc_44 hE) rfl (by decide) tg_345 dX5_countSet_42 ?_
      refine G.iload C 0 dX5_countSet_45 rfl ?_
      obtain ⟨hg_3, h⟩ := gd_ex h
      refine G.aI (j := ix x7_1) C (sc_48 hE) hg_3 rfl dX5_countSet_47 ?_
      refine G.iadd C dX5_countSet_48 ?_
      obtain ⟨x3_4, ex3_4, h⟩ := ltv_ex h
      refine G.istore_n (L' := [(3, .int x3_4), (7, .int x7_1), (0, .ref (eA E 44)), (1, .int x1), (2, .int x2), (4, .int x4), (5, .int x5), (6, .int x6)]) C dX5_countSet_49 rfl ex3_4 (by decide) rfl ?_
      refine G.iload C 5 dX5_countSet_50 rfl ?_
      refine G.iconst (v := (1 : Int32)) C dX5_countSet_52 (by decide) ?_
      refine G.aload_n C 2 dX5_countSet_53 rfl rfl ?_
      refine G.getR (k := 4) C k_X5 (sc_44 hE) rfl (by decide) tg_346 dX5_countSet_54 ?_
      refine G.iload C 1 dX5_countSet_57 rfl ?_
      obtain ⟨hg_5, h⟩ := gd_ex h
      refine G.aI (j := ix x7_1) C (sc_49 hE) hg_5 rfl dX5_countSet_59 ?_
      refine G.iadd C dX5_countSet_60 ?_
      refine G.mmin (rest := []) C tg_1322 tg_421 tg_100 tg_422 ⟨Nat.le_of_ble_eq_true rfl, Nat.le_of_ble_eq_true rfl⟩ (Nat.le_of_ble_eq_true rfl) ⟨Nat.le_refl 0, Nat.le_refl 0⟩ dX5_countSet_61 ?_
      obtain ⟨x4_6, ex4_6, h⟩ := ltv_ex h
      refine G.istore (L' := [(4, .int x4_6), (3, .int x3_4), (7, .int x7_1), (0, .ref (eA E 44)), (1, .int x1), (2, .int x2), (5, .int x5), (6, .int x6)]) C dX5_countSet_64 ex4_6 (by decide) rfl ?_
      exact G.sub [3, 4, 5, 1, 0, 6, 7] rfl (gb_X5_countSet_44_66 hE C hr hk_12  h)
def b_X5_countSet_44_12 : Nat → Int32 → Int32 → Int32 → Int32 → Int32 → Int32 → Mm → Option Mm
  | 0, _, _, _, _, _, _, _ => none
  | n + 1, x1, x2, x3, x4, x5, x6, M => bb_X5_countSet_44_12 (b_X5_countSet_44_12 n) x1 x2 x3 x4 x5 x6 M
set_option maxHeartbeats 4000000 in
theorem g_X5_countSet_44_12  {n : Nat} {x1 : Int32} {x2 : Int32} {x3 : Int32} {x4 : Int32} {x5 : Int32} {x6 : Int32} {M : Mm} {M' : Mm} (hE : Has shC (eH E)) (C : Cx RX5 cX5_countSet 8 p (rmD 1) s m args meth c E) (hr : meth.sig.returnType = none) (h : b_X5_countSet_44_12 n x1 x2 x3 x4 x5 x6 M = some M') : G p l e (rmD 1) s m args below meth c E 8 0 0 (QR below args s E 0 0 none M') 12 [(0, .ref (eA E 44)), (1, .int x1), (2, .int x2), (3, .int x3), (4, .int x4), (5, .int x5), (6, .int x6)] [] M := by
  induction n generalizing x1 x2 x3 x4 x5 x6 M with
  | zero => cases h
  | succ n ih => exact gb_X5_countSet_44_12 hE C hr (fun _ _ _ _ _ _ _ => ih)  h
def bb_X5_countSet_44_0 (x1 : Int32) (x2 : Int32) (M : Mm) : Option Mm := b_X5_countSet_44_12 FU x1 x2 (0 : Int32) (8 : Int32) x2 (0 : Int32) M
set_option maxHeartbeats 4000000 in
set_option maxRecDepth 100000 in
theorem gb_X5_countSet_44_0  {x1 : Int32} {x2 : Int32} {M : Mm} {M' : Mm} (hE : Has shC (eH E)) (C : Cx RX5 cX5_countSet 8 p (rmD 1) s m args meth c E) (hr : meth.sig.returnType = none) (h : bb_X5_countSet_44_0 x1 x2 M = some M') : G p l e (rmD 1) s m args below meth c E 8 0 0 (QR below args s E 0 0 none M') 0 [(0, .ref (eA E 44)), (1, .int x1), (2, .int x2)] [] M := by
  unfold bb_X5_countSet_44_0 at h
  refine G.iconst (v := (0 : Int32)) C dX5_countSet_0 (by decide) ?_
  refine G.istore_n (L' := [(3, .int (0 : Int32)), (0, .ref (eA E 44)), (1, .int x1), (2, .int x2)]) C dX5_countSet_1 rfl rfl (by decide) rfl ?_
  refine G.bipush (v := (8 : Int32)) C dX5_countSet_2 (by decide) ?_
  refine G.istore (L' := [(4, .int (8 : Int32)), (3, .int (0 : Int32)), (0, .ref (eA E 44)), (1, .int x1), (2, .int x2)]) C dX5_countSet_4 rfl (by decide) rfl ?_
  refine G.iload_n C 4 dX5_countSet_6 rfl rfl ?_
  refine G.istore (L' := [(5, .int x2), (4, .int (8 : Int32)), (3, .int (0 : Int32)), (0, .ref (eA E 44)), (1, .int x1), (2, .int x2)]) C dX5_countSet_7 rfl (by decide) rfl ?_
  refine G.iconst (v := (0 : Int32)) C dX5_countSet_9 (by decide) ?_
  refine G.istore (L' := [(6, .int (0 : Int32)), (5, .int x2), (4, .int (8 : Int32)), (3, .int (0 : Int32)), (0, .ref (eA E 44)), (1, .int x1), (2, .int x2)]) C dX5_countSet_10 rfl (by decide) rfl ?_
  exact G.sub [4, 5, 6, 3, 2, 1, 0] rfl (g_X5_countSet_44_12 hE C hr  h)
def f_X5_countSet_44 (x1 : Int32) (x2 : Int32) (M : Mm) : Option Mm := bb_X5_countSet_44_0 x1 x2 M
theorem s_X5_countSet_44 {l : Launch} {E : Ev} {x1 : Int32} {x2 : Int32} {M : Mm} {M' : Mm} (hE : Has shC (eH E)) (h : f_X5_countSet_44 x1 x2 M = some M') : MetA l yX5_countSet cX5_countSet 8 none 1 E [.ref (eA E 44), .int x1, .int x2] M none M' := by
  refine MetA.of (by decide +kernel) (Nat.le_of_ble_eq_true rfl) ?_
  intro p e s m below meth c C hr hnm
  exact G.sub [0, 1, 2] rfl (gb_X5_countSet_44_0 hE C hr  h)
def bb_X5_countSets_44_91 (k_23 : Int32 → Mm → Option Mm) (x1 : Int32) (x3 : Int32) (s1 : Int32) (M : Mm) : Option Mm := gd (inb s1 256) (ltv (wI M 47 (ix s1) (vp_nar .boolean (0 : Int32))) fun M_17 => bd (f_X5_countSet_44 x1 x3 M_17) fun M_19 => ltv (x1 + (1 : Int32)) fun x1_20 => k_23 x1_20 M_19)
set_option maxHeartbeats 4000000 in
set_option maxRecDepth 100000 in
theorem gb_X5_countSets_44_91  {k_23 : Int32 → Mm → Option Mm} {x1 : Int32} {x3 : Int32} {s1 : Int32} {M : Mm} {M' : Mm} (hE : Has shC (eH E)) (C : Cx RX5 cX5_countSets 4 p (rmD 2) s m args meth c E) (hr : meth.sig.returnType = none) (hk_23 : ∀ (x1 : Int32) (M : Mm), k_23 x1 M = some M' → G p l e (rmD 2) s m args below meth c E 4 0 0 (QR below args s E 0 0 none M') 23 [(0, .ref (eA E 44)), (1, .int x1)] [] M) (h : bb_X5_countSets_44_91 k_23 x1 x3 s1 M = some M') : G p l e (rmD 2) s m args below meth c E 4 0 0 (QR below args s E 0 0 none M') 91 [(0, .ref (eA E 44)), (1, .int x1), (3, .int x3)] [.int s1, .ref (eA E 47)] M := by
  unfold bb_X5_countSets_44_91 at h
  refine G.iconst (v := (0 : Int32)) C dX5_countSets_91 (by decide) ?_
  obtain ⟨hg_16, h⟩ := gd_ex h
  obtain ⟨M_17, eM_17, h⟩ := ltv_ex h
  refine G.sZ (j := (ix s1)) C (sc_47 hE) hg_16 rfl dX5_countSets_92 eM_17 ?_
  refine G.aload_n C 0 dX5_countSets_93 rfl rfl ?_
  refine G.iload_n C 1 dX5_countSets_94 rfl rfl ?_
  refine G.iload_n C 2 dX5_countSets_95 rfl rfl ?_
  obtain ⟨M_19, hv_18, h⟩ := bd_ex h
  refine G.callV (rest := []) C (s_X5_countSet_44 hE  hv_18) ⟨tg_1360, tg_97, ok_X5_countSet, Nat.le_of_ble_eq_true rfl, Nat.le_of_ble_eq_true rfl⟩ tg_1357 tg_1359 tg_44 (sc_44 hE) rfl rfl (Nat.le_of_ble_eq_true rfl) dX5_countSets_96 ⟨Nat.le_refl 0, Nat.le_refl 0⟩ ?_
  obtain ⟨x1_20, ex1_20, h⟩ := ltv_ex h
  refine G.iinc (L' := [(1, .int x1_20), (0, .ref (eA E 44)), (3, .int x3)]) C 1 dX5_countSets_99 rfl (ex1_20.trans rfl) (by decide) rfl ?_
  refine G.goto (tgt := 23) C dX5_countSets_102 (by decide) ?_
  exact G.sub [1, 0] rfl (hk_23 _ _  h)
def bb_X5_countSets_44_23 (k_23 : Int32 → Mm → Option Mm) (x1 : Int32) (M : Mm) : Option Mm := bd (f_X5_allPrints_44 M) fun v_5 => if v_5 < x1 then (some M) else (if (256 : Int32) ≤ x1 then (some M) else (bd (f_J6_bitCount_0f7a4 ((x1 &&& (-x1)) - (1 : Int32))) fun v_7 => ltv (x1 &&& (x1 - (1 : Int32))) fun x3_8 => if (8 : Int32) ≤ v_7 then (bb_X5_countSets_44_91 k_23 x1 x3_8 x1 M) else (gd (inb x3_8 256) (if (M.1 47 (ix x3_8)) = 0 then (bb_X5_countSets_44_91 k_23 x1 x3_8 x1 M) else (gd (inb v_7 8) (if (x3_8 &&& ((M.1 46 (ix v_7)) ^^^ (-1 : Int32))) = 0 then (gd (inb x1 256) (ltv (wI M 47 (ix x1) (vp_nar .boolean (1 : Int32))) fun M_12 => bd (f_X5_countSet_44 x1 x3_8 M_12) fun M_14 => ltv (x1 + (1 : Int32)) fun x1_15 => k_23 x1_15 M_14)) else (bb_X5_countSets_44_91 k_23 x1 x3_8 x1 M)))))))
set_option maxHeartbeats 4000000 in
set_option maxRecDepth 100000 in
theorem gb_X5_countSets_44_23  {k_23 : Int32 → Mm → Option Mm} {x1 : Int32} {M : Mm} {M' : Mm} (hE : Has shC (eH E)) (C : Cx RX5 cX5_countSets 4 p (rmD 2) s m args meth c E) (hr : meth.sig.returnType = none) (hk_23 : ∀ (x1 : Int32) (M : Mm), k_23 x1 M = some M' → G p l e (rmD 2) s m args below meth c E 4 0 0 (QR below args s E 0 0 none M') 23 [(0, .ref (eA E 44)), (1, .int x1)] [] M) (h : bb_X5_countSets_44_23 k_23 x1 M = some M') : G p l e (rmD 2) s m args below meth c E 4 0 0 (QR below args s E 0 0 none M') 23 [(0, .ref (eA E 44)), (1, .int x1)] [] M := by
  unfold bb_X5_countSets_44_23 at h
  refine G.iload_n C 1 dX5_countSets_23 rfl rfl ?_
  refine G.aload_n C 0 dX5_countSets_24 rfl rfl ?_
  obtain ⟨v_5, hv_4, h⟩ := bd_ex h
  refine G.callV (rest := [.int x1]) C (s_X5_allPrints_44 hE  hv_4) ⟨tg_1355, tg_97, ok_X5_allPrints, Nat.le_of_ble_eq_true rfl, Nat.le_of_ble_eq_true rfl⟩ tg_1352 tg_1354 tg_43 (sc_44 hE) rfl rfl (Nat.le_of_ble_eq_true rfl) dX5_countSets_25 ⟨Nat.le_refl 0, Nat.le_refl 0⟩ ?_
  refine G.icmp_gt (tgt := 105) C dX5_countSets_28 (by decide) (fun hc => ?_) (fun hc => ?_)
  · have h := it_t h hc
    cases h
    exact G.vret C hr dX5_countSets_105
  · have h := it_f h hc
    refine G.iload_n C 1 dX5_countSets_31 rfl rfl ?_
    refine G.sipush (v := (256 : Int32)) C dX5_countSets_32 (by decide) ?_
    refine G.icmp_ge (tgt := 105) C dX5_countSets_35 (by decide) (fun hc => ?_) (fun hc => ?_)
    · have h := it_t h hc
      cases h
      exact G.vret C hr dX5_countSets_105
    · have h := it_f h hc
      refine G.iload_n C 1 dX5_countSets_38 rfl rfl ?_
      refine G.iload_n C 1 dX5_countSets_39 rfl rfl ?_
      refine G.ineg C dX5_countSets_40 ?_
      refine G.iand C dX5_countSets_41 ?_
      refine G.iconst (v := (1 : Int32)) C dX5_countSets_42 (by decide) ?_
      refine G.isub C dX5_countSets_43 ?_
      obtain ⟨v_7, hv_6, h⟩ := bd_ex h
      refine G.callS (rest := []) C (s_J6_bitCount_0f7a4  hv_6) ⟨tg_998, tg_115, ok_J6_bitCount_0f7a4, Nat.le_of_ble_eq_true rfl, Nat.le_of_ble_eq_true rfl⟩ tg_1356 tg_997 rfl (Nat.le_of_ble_eq_true rfl) dX5_countSets_44 ⟨Nat.le_refl 0, Nat.le_refl 0⟩ ?_
      refine G.istore_n (L' := [(2, .int v_7), (0, .ref (eA E 44)), (1, .int x1)]) C dX5_countSets_47 rfl rfl (by decide) rfl ?_
      refine G.iload_n C 2 dX5_countSets_48 rfl rfl ?_
      refine G.iload_n C 2 dX5_countSets_49 rfl rfl ?_
      refine G.iconst (v := (1 : Int32)) C dX5_countSets_50 (by decide) ?_
      refine G.isub C dX5_countSets_51 ?_
      refine G.iand C dX5_countSets_52 ?_
      obtain ⟨x3_8, ex3_8, h⟩ := ltv_ex h
      refine G.istore_n (L' := [(3, .int x3_8), (2, .int v_7), (0, .ref (eA E 44)), (1, .int x1)]) C dX5_countSets_53 rfl ex3_8 (by decide) rfl ?_
      refine G.aload_n C 2 dX5_countSets_54 rfl rfl ?_
      refine G.getR (k := 2) C k_X5 (sc_44 hE) rfl (by decide) tg_344 dX5_countSets_55 ?_
      refine G.iload_n C 3 dX5_countSets_58 rfl rfl ?_
      refine G.iload_n C 1 dX5_countSets_59 rfl rfl ?_
      refine G.bipush (v := (8 : Int32)) C dX5_countSets_60 (by decide) ?_
      refine G.icmp_ge (tgt := 91) C dX5_countSets_62 (by decide) (fun hc => ?_) (fun hc => ?_)
      · have h := it_t h hc
        exact G.sub [2, 3, 0] rfl (gb_X5_countSets_44_91 hE C hr hk_23  h)
      · have h := it_f h hc
        refine G.aload_n C 2 dX5_countSets_65 rfl rfl ?_
        refine G.getR (k := 2) C k_X5 (sc_44 hE) rfl (by decide) tg_344 dX5_countSets_66 ?_
        refine G.iload_n C 0 dX5_countSets_69 rfl rfl ?_
        obtain ⟨hg_9, h⟩ := gd_ex h
        refine G.aZ (j := ix x3_8) C (sc_47 hE) hg_9 rfl dX5_countSets_70 ?_
        refine G.if_eq (tgt := 91) C dX5_countSets_71 (by decide) (fun hc => ?_) (fun hc => ?_)
        · have h := it_t h hc
          exact G.sub [2, 3, 0] rfl (gb_X5_countSets_44_91 hE C hr hk_23  h)
        · have h := it_f h hc
          refine G.iload_n C 0 dX5_countSets_74 rfl rfl ?_
          refine G.aload_n C 2 dX5_countSets_75 rfl rfl ?_
          refine G.getR (k := 1) C k_X5 (sc_44 hE) rfl (by decide) tg_343 dX5_countSets_76 ?_
          refine G.iload_n C 1 dX5_countSets_79 rfl rfl ?_
          obtain ⟨hg_10, h⟩ := gd_ex h
          refine G.aI (j := ix v_7) C (sc_46 hE) hg_10 rfl dX5_countSets_80 ?_
          refine G.iconst (v := (-1 : Int32)) C dX5_countSets_81 (by decide) ?_
          refine G.ixor C dX5_countSets_82 ?_
          refine G.iand C dX5_countSets_83 ?_
          refine G.if_ne (tgt := 91) C dX5_countSets_84 (by decide) (fun hc => ?_) (fun hc => ?_)
          · have h := it_f h hc
            exact G.sub [2, 3, 0] rfl (gb_X5_countSets_44_91 hE C hr hk_23  h)
          · have h := it_t h hc
            refine G.iconst (v := (1 : Int32)) C dX5_countSets_87 (by decide) ?_
            refine G.goto (tgt := 92) C dX5_countSets_88 (by decide) ?_
            obtain ⟨hg_11, h⟩ := gd_ex h
            obtain ⟨M_12, eM_12, h⟩ := ltv_ex h
            refine G.sZ (j := (ix x1)) C (sc_47 hE) hg_11 rfl dX5_countSets_92 eM_12 ?_
            refine G.aload_n C 2 dX5_countSets_93 rfl rfl ?_
            refine G.iload_n C 3 dX5_countSets_94 rfl rfl ?_
            refine G.iload_n C 0 dX5_countSets_95 rfl rfl ?_
            obtain ⟨M_14, hv_13, h⟩ := bd_ex h
            refine G.callV (rest := []) C (s_X5_countSet_44 hE  hv_13) ⟨tg_1360, tg_97, ok_X5_countSet, Nat.le_of_ble_eq_true rfl, Nat.le_of_ble_eq_true rfl⟩ tg_1357 tg_1359 tg_44 (sc_44 hE) rfl rfl (Nat.le_of_ble_eq_true rfl) dX5_countSets_96 ⟨Nat.le_refl 0, Nat.le_refl 0⟩ ?_
            obtain ⟨x1_15, ex1_15, h⟩ := ltv_ex h
            refine G.iinc (L' := [(1, .int x1_15), (3, .int x3_8), (2, .int v_7), (0, .ref (eA E 44))]) C 3 dX5_countSets_99 rfl (ex1_15.trans rfl) (by decide) rfl ?_
            refine G.goto (tgt := 23) C dX5_countSets_102 (by decide) ?_
            exact G.sub [3, 0] rfl (hk_23 _ _  h)
def b_X5_countSets_44_23 : Nat → Int32 → Mm → Option Mm
  | 0, _, _ => none
  | n + 1, x1, M => bb_X5_countSets_44_23 (b_X5_countSets_44_23 n) x1 M
set_option maxHeartbeats 4000000 in
theorem g_X5_countSets_44_23  {n : Nat} {x1 : Int32} {M : Mm} {M' : Mm} (hE : Has shC (eH E)) (C : Cx RX5 cX5_countSets 4 p (rmD 2) s m args meth c E) (hr : meth.sig.returnType = none) (h : b_X5_countSets_44_23 n x1 M = some M') : G p l e (rmD 2) s m args below meth c E 4 0 0 (QR below args s E 0 0 none M') 23 [(0, .ref (eA E 44)), (1, .int x1)] [] M := by
  induction n generalizing x1 M with
  | zero => cases h
  | succ n ih => exact gb_X5_countSets_44_23 hE C hr (fun _ _ => ih)  h
def bb_X5_countSets_44_0  (M : Mm) : Option Mm := ltv (wI M 47 0 (vp_nar .boolean (1 : Int32))) fun M_1 => ltv (wI M_1 48 0 (1 : Int32)) fun M_2 => ltv (wI M_2 49 0 (0 : Int32)) fun M_3 => b_X5_countSets_44_23 FU (1 : Int32) M_3
set_option maxHeartbeats 4000000 in
set_option maxRecDepth 100000 in
theorem gb_X5_countSets_44_0   {M : Mm} {M' : Mm} (hE : Has shC (eH E)) (C : Cx RX5 cX5_countSets 4 p (rmD 2) s m args meth c E) (hr : meth.sig.returnType = none) (h : bb_X5_countSets_44_0 M = some M') : G p l e (rmD 2) s m args below meth c E 4 0 0 (QR below args s E 0 0 none M') 0 [(0, .ref (eA E 44))] [] M := by
  unfold bb_X5_countSets_44_0 at h
  refine G.aload_n C 0 dX5_countSets_0 rfl rfl ?_
  refine G.getR (k := 2) C k_X5 (sc_44 hE) rfl (by decide) tg_344 dX5_countSets_1 ?_
  refine G.iconst (v := (0 : Int32)) C dX5_countSets_4 (by decide) ?_
  refine G.iconst (v := (1 : Int32)) C dX5_countSets_5 (by decide) ?_
  obtain ⟨M_1, eM_1, h⟩ := ltv_ex h
  refine G.sZ (j := 0) C (sc_47 hE) (by decide) (by decide) dX5_countSets_6 eM_1 ?_
  refine G.aload_n C 0 dX5_countSets_7 rfl rfl ?_
  refine G.getR (k := 3) C k_X5 (sc_44 hE) rfl (by decide) tg_345 dX5_countSets_8 ?_
  refine G.iconst (v := (0 : Int32)) C dX5_countSets_11 (by decide) ?_
  refine G.iconst (v := (1 : Int32)) C dX5_countSets_12 (by decide) ?_
  obtain ⟨M_2, eM_2, h⟩ := ltv_ex h
  refine G.sI (j := 0) C (sc_48 hE) (by decide) (by decide) dX5_countSets_13 eM_2 ?_
  refine G.aload_n C 0 dX5_countSets_14 rfl rfl ?_
  refine G.getR (k := 4) C k_X5 (sc_44 hE) rfl (by decide) tg_346 dX5_countSets_15 ?_
  refine G.iconst (v := (0 : Int32)) C dX5_countSets_18 (by decide) ?_
  refine G.iconst (v := (0 : Int32)) C dX5_countSets_19 (by decide) ?_
  obtain ⟨M_3, eM_3, h⟩ := ltv_ex h
  refine G.sI (j := 0) C (sc_49 hE) (by decide) (by decide) dX5_countSets_20 eM_3 ?_
  refine G.iconst (v := (1 : Int32)) C dX5_countSets_21 (by decide) ?_
  refine G.istore_n (L' := [(1, .int (1 : Int32)), (0, .ref (eA E 44))]) C dX5_countSets_22 rfl rfl (by decide) rfl ?_
  exact G.sub [1, 0] rfl (g_X5_countSets_44_23 hE C hr  h)
def f_X5_countSets_44  (M : Mm) : Option Mm := bb_X5_countSets_44_0 M
theorem s_X5_countSets_44 {l : Launch} {E : Ev}  {M : Mm} {M' : Mm} (hE : Has shC (eH E)) (h : f_X5_countSets_44 M = some M') : MetA l yX5_countSets cX5_countSets 4 none 2 E [.ref (eA E 44)] M none M' := by
  refine MetA.of (by decide +kernel) (Nat.le_of_ble_eq_true rfl) ?_
  intro p e s m below meth c C hr hnm
  exact G.sub [0] rfl (gb_X5_countSets_44_0 hE C hr  h)
def bb_X5_ways_44_0  (M : Mm) : Option (Int32 × Mm) := bd (f_X5_countSets_44 M) fun M_2 => bd (f_X5_allPrints_44 M_2) fun v_4 => gd (inb v_4 256) (some (M_2.1 48 (ix v_4), M_2))
set_option maxHeartbeats 4000000 in
set_option maxRecDepth 100000 in
theorem gb_X5_ways_44_0   {M : Mm} {v : Int32} {M' : Mm} (hE : Has shC (eH E)) (C : Cx RX5 cX5_ways 1 p (rmD 3) s m args meth c E) (hr : meth.sig.returnType = (some .int)) (h : bb_X5_ways_44_0 M = some (v, M')) : G p l e (rmD 3) s m args below meth c E 1 0 0 (QR below args s E 0 0 (some (.int v)) M') 0 [(0, .ref (eA E 44))] [] M := by
  unfold bb_X5_ways_44_0 at h
  refine G.aload_n C 0 dX5_ways_0 rfl rfl ?_
  obtain ⟨M_2, hv_1, h⟩ := bd_ex h
  refine G.callV (rest := []) C (s_X5_countSets_44 hE  hv_1) ⟨tg_1351, tg_97, ok_X5_countSets, Nat.le_of_ble_eq_true rfl, Nat.le_of_ble_eq_true rfl⟩ tg_1348 tg_1350 tg_42 (sc_44 hE) rfl rfl (Nat.le_of_ble_eq_true rfl) dX5_ways_1 ⟨Nat.le_refl 0, Nat.le_refl 0⟩ ?_
  refine G.aload_n C 0 dX5_ways_4 rfl rfl ?_
  refine G.getR (k := 3) C k_X5 (sc_44 hE) rfl (by decide) tg_345 dX5_ways_5 ?_
  refine G.aload_n C 0 dX5_ways_8 rfl rfl ?_
  obtain ⟨v_4, hv_3, h⟩ := bd_ex h
  refine G.callV (rest := [.ref (eA E 48)]) C (s_X5_allPrints_44 hE  hv_3) ⟨tg_1355, tg_97, ok_X5_allPrints, Nat.le_of_ble_eq_true rfl, Nat.le_of_ble_eq_true rfl⟩ tg_1352 tg_1354 tg_43 (sc_44 hE) rfl rfl (Nat.le_of_ble_eq_true rfl) dX5_ways_9 ⟨Nat.le_refl 0, Nat.le_refl 0⟩ ?_
  obtain ⟨hg_5, h⟩ := gd_ex h
  refine G.aI (j := ix v_4) C (sc_48 hE) hg_5 rfl dX5_ways_12 ?_
  cases h
  exact G.iret C hr dX5_ways_13
def f_X5_ways_44  (M : Mm) : Option (Int32 × Mm) := bb_X5_ways_44_0 M
theorem s_X5_ways_44 {l : Launch} {E : Ev}  {M : Mm} {v : Int32} {M' : Mm} (hE : Has shC (eH E)) (h : f_X5_ways_44 M = some (v, M')) : MetA l yX5_ways cX5_ways 1 (some .int) 3 E [.ref (eA E 44)] M (some (.int v)) M' := by
  refine MetA.of (by decide +kernel) (Nat.le_of_ble_eq_true rfl) ?_
  intro p e s m below meth c C hr hnm
  exact G.sub [0] rfl (gb_X5_ways_44_0 hE C hr  h)
def bb_X5_fewest_44_0  (M : Mm) : Option (Int32 × Mm) := bd (f_X5_countSets_44 M) fun M_2 => bd (f_X5_allPrints_44 M_2) fun v_4 => gd (inb v_4 256) (some (M_2.1 49 (ix v_4), M_2))
set_option maxHeartbeats 4000000 in
set_option maxRecDepth 100000 in
theorem gb_X5_fewest_44_0   {M : Mm} {v : Int32} {M' : Mm} (hE : Has shC (eH E)) (C : Cx RX5 cX5_fewest 1 p (rmD 3) s m args meth c E) (hr : meth.sig.returnType = (some .int)) (h : bb_X5_fewest_44_0 M = some (v, M')) : G p l e (rmD 3) s m args below meth c E 1 0 0 (QR below args s E 0 0 (some (.int v)) M') 0 [(0, .ref (eA E 44))] [] M := by
  unfold bb_X5_fewest_44_0 at h
  refine G.aload_n C 0 dX5_fewest_0 rfl rfl ?_
  obtain ⟨M_2, hv_1, h⟩ := bd_ex h
  refine G.callV (rest := []) C (s_X5_countSets_44 hE  hv_1) ⟨tg_1351, tg_97, ok_X5_countSets, Nat.le_of_ble_eq_true rfl, Nat.le_of_ble_eq_true rfl⟩ tg_1348 tg_1350 tg_42 (sc_44 hE) rfl rfl (Nat.le_of_ble_eq_true rfl) dX5_fewest_1 ⟨Nat.le_refl 0, Nat.le_refl 0⟩ ?_
  refine G.aload_n C 0 dX5_fewest_4 rfl rfl ?_
  refine G.getR (k := 4) C k_X5 (sc_44 hE) rfl (by decide) tg_346 dX5_fewest_5 ?_
  refine G.aload_n C 0 dX5_fewest_8 rfl rfl ?_
  obtain ⟨v_4, hv_3, h⟩ := bd_ex h
  refine G.callV (rest := [.ref (eA E 49)]) C (s_X5_allPrints_44 hE  hv_3) ⟨tg_1355, tg_97, ok_X5_allPrints, Nat.le_of_ble_eq_true rfl, Nat.le_of_ble_eq_true rfl⟩ tg_1352 tg_1354 tg_43 (sc_44 hE) rfl rfl (Nat.le_of_ble_eq_true rfl) dX5_fewest_9 ⟨Nat.le_refl 0, Nat.le_refl 0⟩ ?_
  obtain ⟨hg_5, h⟩ := gd_ex h
  refine G.aI (j := ix v_4) C (sc_49 hE) hg_5 rfl dX5_fewest_12 ?_
  cases h
  exact G.iret C hr dX5_fewest_13
def f_X5_fewest_44  (M : Mm) : Option (Int32 × Mm) := bb_X5_fewest_44_0 M
theorem s_X5_fewest_44 {l : Launch} {E : Ev}  {M : Mm} {v : Int32} {M' : Mm} (hE : Has shC (eH E)) (h : f_X5_fewest_44 M = some (v, M')) : MetA l yX5_fewest cX5_fewest 1 (some .int) 3 E [.ref (eA E 44)] M (some (.int v)) M' := by
  refine MetA.of (by decide +kernel) (Nat.le_of_ble_eq_true rfl) ?_
  intro p e s m below meth c C hr hnm
  exact G.sub [0] rfl (gb_X5_fewest_44_0 hE C hr  h)
end
