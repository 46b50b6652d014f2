section
variable {p : Program} {l : Launch} {e : Env} {s : State} {m : MethodId} {args : Array Value} {below : List Frame} {meth : Method} {c : Code} {E : Ev}
def bb_X4_block_23 (k_23 : Int32 → Int32 → Int64 → Int64 → Int32 → Option Int64) (x1 : Int32) (x3 : Int32) (x4 : Int64) (x6 : Int64) (x8 : Int32) : Option Int64 := if x3 ≤ x8 then (some x6) else (ltv (x6 ||| (shL x4 ((8 : Int32) * (x1 + x8)))) fun x6_2 => ltv (x8 + (1 : Int32)) fun x8_3 => k_23 x1 x3 x4 x6_2 x8_3)
set_option maxHeartbeats 4000000 in
set_option maxRecDepth 100000 in
theorem gb_X4_block_23 {M : Mm}  {k_23 : Int32 → Int32 → Int64 → Int64 → Int32 → Option Int64} {x1 : Int32} {x3 : Int32} {x4 : Int64} {x6 : Int64} {x8 : Int32} {v : Int64} (C : Cx RX4 cX4_block 9 p (rmD 1) s m args meth c E) (hr : meth.sig.returnType = (some .long)) (hk_23 : ∀ (x1 : Int32) (x3 : Int32) (x4 : Int64) (x6 : Int64) (x8 : Int32), k_23 x1 x3 x4 x6 x8 = some v → G p l e (rmD 1) s m args below meth c E 9 0 0 (QR below args s E 0 0 (some (.long v)) M) 23 [(1, .int x1), (3, .int x3), (4, .long x4), (6, .long x6), (8, .int x8)] [] M) (h : bb_X4_block_23 k_23 x1 x3 x4 x6 x8 = some v) : G p l e (rmD 1) s m args below meth c E 9 0 0 (QR below args s E 0 0 (some (.long v)) M) 23 [(1, .int x1), (3, .int x3), (4, .long x4), (6, .long x6), (8, .int x8)] [] M := by
  unfold bb_X4_block_23 at h
  refine G.iload C 4 dX4_block_23 rfl ?_
  refine G.iload_n C 1 dX4_block_25 rfl rfl ?_
  refine G.icmp_ge (tgt := 50) C dX4_block_26 (by decide) (fun hc => ?_) (fun hc => ?_)
  · have h := it_t h hc
    refine G.lload C 3 dX4_block_50 rfl ?_
    cases h
    exact G.lret C hr dX4_block_52
  · have h := it_f h hc
    refine G.lload C 3 dX4_block_29 rfl ?_
    refine G.lload C 2 dX4_block_31 rfl ?_
    refine G.bipush (v := (8 : Int32)) C dX4_block_33 (by decide) ?_
    refine G.iload_n C 0 dX4_block_35 rfl rfl ?_
    refine G.iload C 4 dX4_block_36 rfl ?_
    refine G.iadd C dX4_block_38 ?_
    refine G.imul C dX4_block_39 ?_
    refine G.lshl (v := shL x4 ((8 : Int32) * (x1 + x8))) C dX4_block_40 rfl ?_
    refine G.lor C dX4_block_41 ?_
    obtain ⟨x6_2, ex6_2, h⟩ := ltv_ex h
    refine G.lstore (L' := [(6, .long x6_2), (1, .int x1), (3, .int x3), (4, .long x4), (8, .int x8)]) C dX4_block_42 ex6_2 (by decide) rfl ?_
    obtain ⟨x8_3, ex8_3, h⟩ := ltv_ex h
    refine G.iinc (L' := [(8, .int x8_3), (6, .long x6_2), (1, .int x1), (3, .int x3), (4, .long x4)]) C 4 dX4_block_44 rfl (ex8_3.trans rfl) (by decide) rfl ?_
    refine G.goto (tgt := 23) C dX4_block_47 (by decide) ?_
    exact G.sub [2, 3, 4, 1, 0] rfl (hk_23 _ _ _ _ _  h)
def b_X4_block_23 : Nat → Int32 → Int32 → Int64 → Int64 → Int32 → Option Int64
  | 0, _, _, _, _, _ => none
  | n + 1, x1, x3, x4, x6, x8 => bb_X4_block_23 (b_X4_block_23 n) x1 x3 x4 x6 x8
set_option maxHeartbeats 4000000 in
theorem g_X4_block_23 {M : Mm}  {n : Nat} {x1 : Int32} {x3 : Int32} {x4 : Int64} {x6 : Int64} {x8 : Int32} {v : Int64} (C : Cx RX4 cX4_block 9 p (rmD 1) s m args meth c E) (hr : meth.sig.returnType = (some .long)) (h : b_X4_block_23 n x1 x3 x4 x6 x8 = some v) : G p l e (rmD 1) s m args below meth c E 9 0 0 (QR below args s E 0 0 (some (.long v)) M) 23 [(1, .int x1), (3, .int x3), (4, .long x4), (6, .long x6), (8, .int x8)] [] M := by
  induction n generalizing x1 x3 x4 x6 x8 with
  | zero => cases h
  | succ n ih => exact gb_X4_block_23 C hr (fun _ _ _ _ _ => ih)  h
def bb_X4_block_0 (x0 : Int32) (x1 : Int32) (x2 : Int32) (x3 : Int32) : Option Int64 := if 0 < x2 then (ltv (shL ((shL (1 : Int64) x2) - (1 : Int64)) x0) fun x4_1 => b_X4_block_23 FU x1 x3 x4_1 (0 : Int64) (0 : Int32)) else (b_X4_block_23 FU x1 x3 (0 : Int64) (0 : Int64) (0 : Int32))
set_option maxHeartbeats 4000000 in
set_option maxRecDepth 100000 in
theorem gb_X4_block_0 {M : Mm}  {x0 : Int32} {x1 : Int32} {x2 : Int32} {x3 : Int32} {v : Int64} (C : Cx RX4 cX4_block 9 p (rmD 1) s m args meth c E) (hr : meth.sig.returnType = (some .long)) (h : bb_X4_block_0 x0 x1 x2 x3 = some v) : G p l e (rmD 1) s m args below meth c E 9 0 0 (QR below args s E 0 0 (some (.long v)) M) 0 [(0, .int x0), (1, .int x1), (2, .int x2), (3, .int x3)] [] M := by
  unfold bb_X4_block_0 at h
  refine G.iload_n C 2 dX4_block_0 rfl rfl ?_
  refine G.if_gt (tgt := 8) C dX4_block_1 (by decide) (fun hc => ?_) (fun hc => ?_)
  · have h := it_t h hc
    refine G.lconst (v := (1 : Int64)) C dX4_block_8 (by decide) ?_
    refine G.iload_n C 2 dX4_block_9 rfl rfl ?_
    refine G.lshl (v := shL (1 : Int64) x2) C dX4_block_10 rfl ?_
    refine G.lconst (v := (1 : Int64)) C dX4_block_11 (by decide) ?_
    refine G.lsub C dX4_block_12 ?_
    refine G.iload_n C 0 dX4_block_13 rfl rfl ?_
    refine G.lshl (v := shL ((shL (1 : Int64) x2) - (1 : Int64)) x0) C dX4_block_14 rfl ?_
    obtain ⟨x4_1, ex4_1, h⟩ := ltv_ex h
    refine G.lstore (L' := [(4, .long x4_1), (0, .int x0), (1, .int x1), (2, .int x2), (3, .int x3)]) C dX4_block_15 ex4_1 (by decide) rfl ?_
    refine G.lconst (v := (0 : Int64)) C dX4_block_17 (by decide) ?_
    refine G.lstore (L' := [(6, .long (0 : Int64)), (4, .long x4_1), (0, .int x0), (1, .int x1), (2, .int x2), (3, .int x3)]) C dX4_block_18 rfl (by decide) rfl ?_
    refine G.iconst (v := (0 : Int32)) C dX4_block_20 (by decide) ?_
    refine G.istore (L' := [(8, .int (0 : Int32)), (6, .long (0 : Int64)), (4, .long x4_1), (0, .int x0), (1, .int x1), (2, .int x2), (3, .int x3)]) C dX4_block_21 rfl (by decide) rfl ?_
    exact G.sub [4, 6, 2, 1, 0] rfl (g_X4_block_23 C hr  h)
  · have h := it_f h hc
    refine G.lconst (v := (0 : Int64)) C dX4_block_4 (by decide) ?_
    refine G.goto (tgt := 15) C dX4_block_5 (by decide) ?_
    refine G.lstore (L' := [(4, .long (0 : Int64)), (0, .int x0), (1, .int x1), (2, .int x2), (3, .int x3)]) C dX4_block_15 rfl (by decide) rfl ?_
    refine G.lconst (v := (0 : Int64)) C dX4_block_17 (by decide) ?_
    refine G.lstore (L' := [(6, .long (0 : Int64)), (4, .long (0 : Int64)), (0, .int x0), (1, .int x1), (2, .int x2), (3, .int x3)]) C dX4_block_18 rfl (by decide) rfl ?_
    refine G.iconst (v := (0 : Int32)) C dX4_block_20 (by decide) ?_
    refine G.istore (L' := [(8, .int (0 : Int32)), (6, .long (0 : Int64)), (4, .long (0 : Int64)), (0, .int x0), (1, .int x1), (2, .int x2), (3, .int x3)]) C dX4_block_21 rfl (by decide) rfl ?_
    exact G.sub [4, 6, 2, 1, 0] rfl (g_X4_block_23 C hr  h)
def f_X4_block (x0 : Int32) (x1 : Int32) (x2 : Int32) (x3 : Int32) : Option Int64 := bb_X4_block_0 x0 x1 x2 x3
theorem s_X4_block {l : Launch} {E : Ev} {x0 : Int32} {x1 : Int32} {x2 : Int32} {x3 : Int32} {M : Mm} {v : Int64} (h : f_X4_block x0 x1 x2 x3 = some v) : MetA l yX4_block cX4_block 9 (some .long) 1 E [.int x0, .int x1, .int x2, .int x3] M (some (.long v)) M := by
  refine MetA.of (by decide +kernel) (Nat.le_of_ble_eq_true rfl) ?_
  intro p e s m below meth c C hr hnm
  exact G.sub [0, 1, 2, 3] rfl (gb_X4_block_0 C hr  h)
def bb_X4_rim_0 (x0 : Int32) (x1 : Int32) (x2 : Int32) (x3 : Int32) : Option Int64 := bd (f_X4_block x0 x1 x2 x3) fun v_2 => bd (f_X4_block (x0 + (1 : Int32)) (x1 + (1 : Int32)) (x2 - (2 : Int32)) (x3 - (2 : Int32))) fun v_4 => some (v_2 &&& (v_4 ^^^ (-1 : Int64)))
set_option maxHeartbeats 4000000 in
set_option maxRecDepth 100000 in
theorem gb_X4_rim_0 {M : Mm}  {x0 : Int32} {x1 : Int32} {x2 : Int32} {x3 : Int32} {v : Int64} (C : Cx RX4 cX4_rim 4 p (rmD 2) s m args meth c E) (hr : meth.sig.returnType = (some .long)) (h : bb_X4_rim_0 x0 x1 x2 x3 = some v) : G p l e (rmD 2) s m args below meth c E 4 0 0 (QR below args s E 0 0 (some (.long v)) M) 0 [(0, .int x0), (1, .int x1), (2, .int x2), (3, .int x3)] [] M := by
  unfold bb_X4_rim_0 at h
  refine G.iload_n C 0 dX4_rim_0 rfl rfl ?_
  refine G.iload_n C 1 dX4_rim_1 rfl rfl ?_
  refine G.iload_n C 2 dX4_rim_2 rfl rfl ?_
  refine G.iload_n C 3 dX4_rim_3 rfl rfl ?_
  obtain ⟨v_2, hv_1, h⟩ := bd_ex h
  refine G.callS (rest := []) C (s_X4_block  hv_1) ⟨tg_844, tg_101, ok_X4_block, Nat.le_of_ble_eq_true rfl, Nat.le_of_ble_eq_true rfl⟩ tg_852 tg_843 rfl (Nat.le_of_ble_eq_true rfl) dX4_rim_4 ⟨Nat.le_refl 0, Nat.le_refl 0⟩ ?_
  refine G.iload_n C 0 dX4_rim_7 rfl rfl ?_
  refine G.iconst (v := (1 : Int32)) C dX4_rim_8 (by decide) ?_
  refine G.iadd C dX4_rim_9 ?_
  refine G.iload_n C 1 dX4_rim_10 rfl rfl ?_
  refine G.iconst (v := (1 : Int32)) C dX4_rim_11 (by decide) ?_
  refine G.iadd C dX4_rim_12 ?_
  refine G.iload_n C 2 dX4_rim_13 rfl rfl ?_
  refine G.iconst (v := (2 : Int32)) C dX4_rim_14 (by decide) ?_
  refine G.isub C dX4_rim_15 ?_
  refine G.iload_n C 3 dX4_rim_16 rfl rfl ?_
  refine G.iconst (v := (2 : Int32)) C dX4_rim_17 (by decide) ?_
  refine G.isub C dX4_rim_18 ?_
  obtain ⟨v_4, hv_3, h⟩ := bd_ex h
  refine G.callS (rest := [.long v_2]) C (s_X4_block  hv_3) ⟨tg_844, tg_101, ok_X4_block, Nat.le_of_ble_eq_true rfl, Nat.le_of_ble_eq_true rfl⟩ tg_852 tg_843 rfl (Nat.le_of_ble_eq_true rfl) dX4_rim_19 ⟨Nat.le_refl 0, Nat.le_refl 0⟩ ?_
  refine G.ldc2 C tg_469 dX4_rim_22 ?_
  refine G.lxor C dX4_rim_25 ?_
  refine G.land C dX4_rim_26 ?_
  cases h
  exact G.lret C hr dX4_rim_27
def f_X4_rim (x0 : Int32) (x1 : Int32) (x2 : Int32) (x3 : Int32) : Option Int64 := bb_X4_rim_0 x0 x1 x2 x3
theorem s_X4_rim {l : Launch} {E : Ev} {x0 : Int32} {x1 : Int32} {x2 : Int32} {x3 : Int32} {M : Mm} {v : Int64} (h : f_X4_rim x0 x1 x2 x3 = some v) : MetA l yX4_rim cX4_rim 4 (some .long) 2 E [.int x0, .int x1, .int x2, .int x3] M (some (.long v)) M := by
  refine MetA.of (by decide +kernel) (Nat.le_of_ble_eq_true rfl) ?_
  intro p e s m below meth c C hr hnm
  exact G.sub [0, 1, 2, 3] rfl (gb_X4_rim_0 C hr  h)
def bb_X4_filed_0 (x0 : Int32) (x1 : Int32) (x2 : Int32) : Option Int64 := if x0 = (0 : Int32) then (bd (f_X4_block (0 : Int32) x1 x2 (1 : Int32)) fun v_2 => some v_2) else (if x0 = (1 : Int32) then (bd (f_X4_block ((8 : Int32) - x2) x1 x2 (1 : Int32)) fun v_4 => some v_4) else (if x0 = (2 : Int32) then (bd (f_X4_block x1 (0 : Int32) (1 : Int32) x2) fun v_6 => some v_6) else (bd (f_X4_block x1 ((8 : Int32) - x2) (1 : Int32) x2) fun v_8 => some v_8)))
set_option maxHeartbeats 4000000 in
set_option maxRecDepth 100000 in
theorem gb_X4_filed_0 {M : Mm}  {x0 : Int32} {x1 : Int32} {x2 : Int32} {v : Int64} (C : Cx RX4 cX4_filed 3 p (rmD 2) s m args meth c E) (hr : meth.sig.returnType = (some .long)) (h : bb_X4_filed_0 x0 x1 x2 = some v) : G p l e (rmD 2) s m args below meth c E 3 0 0 (QR below args s E 0 0 (some (.long v)) M) 0 [(0, .int x0), (1, .int x1), (2, .int x2)] [] M := by
  unfold bb_X4_filed_0 at h
  refine G.iload_n C 0 dX4_filed_0 rfl rfl ?_
  by_cases hc0 : x0 = (0 : Int32)
  · have h := it_t h hc0
    refine G.tableIn (tgt := 28) C dX4_filed_1 (by rw [hc0]; decide) (by rw [hc0]; decide) (by rw [hc0]; rfl) (by decide) ?_
    refine G.iconst (v := (0 : Int32)) C dX4_filed_28 (by decide) ?_
    refine G.iload_n C 1 dX4_filed_29 rfl rfl ?_
    refine G.iload_n C 2 dX4_filed_30 rfl rfl ?_
    refine G.iconst (v := (1 : Int32)) C dX4_filed_31 (by decide) ?_
    obtain ⟨v_2, hv_1, h⟩ := bd_ex h
    refine G.callS (rest := []) C (s_X4_block  hv_1) ⟨tg_844, tg_101, ok_X4_block, Nat.le_of_ble_eq_true rfl, Nat.le_of_ble_eq_true rfl⟩ tg_852 tg_843 rfl (Nat.le_of_ble_eq_true rfl) dX4_filed_32 ⟨Nat.le_refl 0, Nat.le_refl 0⟩ ?_
    cases h
    exact G.lret C hr dX4_filed_35
  have h := it_f h hc0
  by_cases hc1 : x0 = (1 : Int32)
  · have h := it_t h hc1
    refine G.tableIn (tgt := 36) C dX4_filed_1 (by rw [hc1]; decide) (by rw [hc1]; decide) (by rw [hc1]; rfl) (by decide) ?_
    refine G.bipush (v := (8 : Int32)) C dX4_filed_36 (by decide) ?_
    refine G.iload_n C 2 dX4_filed_38 rfl rfl ?_
    refine G.isub C dX4_filed_39 ?_
    refine G.iload_n C 1 dX4_filed_40 rfl rfl ?_
    refine G.iload_n C 2 dX4_filed_41 rfl rfl ?_
    refine G.iconst (v := (1 : Int32)) C dX4_filed_42 (by decide) ?_
    obtain ⟨v_4, hv_3, h⟩ := bd_ex h
    refine G.callS (rest := []) C (s_X4_block  hv_3) ⟨tg_844, tg_101, ok_X4_block, Nat.le_of_ble_eq_true rfl, Nat.le_of_ble_eq_true rfl⟩ tg_852 tg_843 rfl (Nat.le_of_ble_eq_true rfl) dX4_filed_43 ⟨Nat.le_refl 0, Nat.le_refl 0⟩ ?_
    cases h
    exact G.lret C hr dX4_filed_46
  have h := it_f h hc1
  by_cases hc2 : x0 = (2 : Int32)
  · have h := it_t h hc2
    refine G.tableIn (tgt := 47) C dX4_filed_1 (by rw [hc2]; decide) (by rw [hc2]; decide) (by rw [hc2]; rfl) (by decide) ?_
    refine G.iload_n C 1 dX4_filed_47 rfl rfl ?_
    refine G.iconst (v := (0 : Int32)) C dX4_filed_48 (by decide) ?_
    refine G.iconst (v := (1 : Int32)) C dX4_filed_49 (by decide) ?_
    refine G.iload_n C 2 dX4_filed_50 rfl rfl ?_
    obtain ⟨v_6, hv_5, h⟩ := bd_ex h
    refine G.callS (rest := []) C (s_X4_block  hv_5) ⟨tg_844, tg_101, ok_X4_block, Nat.le_of_ble_eq_true rfl, Nat.le_of_ble_eq_true rfl⟩ tg_852 tg_843 rfl (Nat.le_of_ble_eq_true rfl) dX4_filed_51 ⟨Nat.le_refl 0, Nat.le_refl 0⟩ ?_
    cases h
    exact G.lret C hr dX4_filed_54
  have h := it_f h hc2
  refine G.tableOut (tgt := 55) C dX4_filed_1 (by have q0 := ne_toInt (z := 0) (by decide) hc0; have q1 := ne_toInt (z := 1) (by decide) hc1; have q2 := ne_toInt (z := 2) (by decide) hc2; omega) (by decide) ?_
  refine G.iload_n C 1 dX4_filed_55 rfl rfl ?_
  refine G.bipush (v := (8 : Int32)) C dX4_filed_56 (by decide) ?_
  refine G.iload_n C 2 dX4_filed_58 rfl rfl ?_
  refine G.isub C dX4_filed_59 ?_
  refine G.iconst (v := (1 : Int32)) C dX4_filed_60 (by decide) ?_
  refine G.iload_n C 2 dX4_filed_61 rfl rfl ?_
  obtain ⟨v_8, hv_7, h⟩ := bd_ex h
  refine G.callS (rest := []) C (s_X4_block  hv_7) ⟨tg_844, tg_101, ok_X4_block, Nat.le_of_ble_eq_true rfl, Nat.le_of_ble_eq_true rfl⟩ tg_852 tg_843 rfl (Nat.le_of_ble_eq_true rfl) dX4_filed_62 ⟨Nat.le_refl 0, Nat.le_refl 0⟩ ?_
  cases h
  exact G.lret C hr dX4_filed_65
def f_X4_filed (x0 : Int32) (x1 : Int32) (x2 : Int32) : Option Int64 := bb_X4_filed_0 x0 x1 x2
theorem s_X4_filed {l : Launch} {E : Ev} {x0 : Int32} {x1 : Int32} {x2 : Int32} {M : Mm} {v : Int64} (h : f_X4_filed x0 x1 x2 = some v) : MetA l yX4_filed cX4_filed 3 (some .long) 2 E [.int x0, .int x1, .int x2] M (some (.long v)) M := by
  refine MetA.of (by decide +kernel) (Nat.le_of_ble_eq_true rfl) ?_
  intro p e s m below meth c C hr hnm
  exact G.sub [0, 1, 2] rfl (gb_X4_filed_0 C hr  h)
def bb_X4_moved_0 (x0 : Int64) (x2 : Int32) : Option Int64 := if x2 = (0 : Int32) then (some (shL (x0 &&& (9187201950435737471 : Int64)) (1 : Int32))) else (if x2 = (1 : Int32) then (some (ushL (x0 &&& (-72340172838076674 : Int64)) (1 : Int32))) else (if x2 = (2 : Int32) then (some (shL x0 (8 : Int32))) else (some (ushL x0 (8 : Int32)))))
set_option maxHeartbeats 4000000 in
set_option maxRecDepth 100000 in
theorem gb_X4_moved_0 {M : Mm}  {x0 : Int64} {x2 : Int32} {v : Int64} (C : Cx RX4 cX4_moved 3 p (rmD 1) s m args meth c E) (hr : meth.sig.returnType = (some .long)) (h : bb_X4_moved_0 x0 x2 = some v) : G p l e (rmD 1) s m args below meth c E 3 0 0 (QR below args s E 0 0 (some (.long v)) M) 0 [(0, .long x0), (2, .int x2)] [] M := by
  unfold bb_X4_moved_0 at h
  refine G.iload_n C 1 dX4_moved_0 rfl rfl ?_
  by_cases hc0 : x2 = (0 : Int32)
  · have h := it_t h hc0
    refine G.tableIn (tgt := 28) C dX4_moved_1 (by rw [hc0]; decide) (by rw [hc0]; decide) (by rw [hc0]; rfl) (by decide) ?_
    refine G.lload_n C 0 dX4_moved_28 rfl rfl ?_
    refine G.ldc2 C tg_467 dX4_moved_29 ?_
    refine G.land C dX4_moved_32 ?_
    refine G.iconst (v := (1 : Int32)) C dX4_moved_33 (by decide) ?_
    refine G.lshl (v := shL (x0 &&& (9187201950435737471 : Int64)) (1 : Int32)) C dX4_moved_34 rfl ?_
    cases h
    exact G.lret C hr dX4_moved_35
  have h := it_f h hc0
  by_cases hc1 : x2 = (1 : Int32)
  · have h := it_t h hc1
    refine G.tableIn (tgt := 36) C dX4_moved_1 (by rw [hc1]; decide) (by rw [hc1]; decide) (by rw [hc1]; rfl) (by decide) ?_
    refine G.lload_n C 0 dX4_moved_36 rfl rfl ?_
    refine G.ldc2 C tg_468 dX4_moved_37 ?_
    refine G.land C dX4_moved_40 ?_
    refine G.iconst (v := (1 : Int32)) C dX4_moved_41 (by decide) ?_
    refine G.lushr (v := ushL (x0 &&& (-72340172838076674 : Int64)) (1 : Int32)) C dX4_moved_42 rfl ?_
    cases h
    exact G.lret C hr dX4_moved_43
  have h := it_f h hc1
  by_cases hc2 : x2 = (2 : Int32)
  · have h := it_t h hc2
    refine G.tableIn (tgt := 44) C dX4_moved_1 (by rw [hc2]; decide) (by rw [hc2]; decide) (by rw [hc2]; rfl) (by decide) ?_
    refine G.lload_n C 0 dX4_moved_44 rfl rfl ?_
    refine G.bipush (v := (8 : Int32)) C dX4_moved_45 (by decide) ?_
    refine G.lshl (v := shL x0 (8 : Int32)) C dX4_moved_47 rfl ?_
    cases h
    exact G.lret C hr dX4_moved_48
  have h := it_f h hc2
  refine G.tableOut (tgt := 49) C dX4_moved_1 (by have q0 := ne_toInt (z := 0) (by decide) hc0; have q1 := ne_toInt (z := 1) (by decide) hc1; have q2 := ne_toInt (z := 2) (by decide) hc2; omega) (by decide) ?_
  refine G.lload_n C 0 dX4_moved_49 rfl rfl ?_
  refine G.bipush (v := (8 : Int32)) C dX4_moved_50 (by decide) ?_
  refine G.lushr (v := ushL x0 (8 : Int32)) C dX4_moved_52 rfl ?_
  cases h
  exact G.lret C hr dX4_moved_53
def f_X4_moved (x0 : Int64) (x2 : Int32) : Option Int64 := bb_X4_moved_0 x0 x2
theorem s_X4_moved {l : Launch} {E : Ev} {x0 : Int64} {x2 : Int32} {M : Mm} {v : Int64} (h : f_X4_moved x0 x2 = some v) : MetA l yX4_moved cX4_moved 3 (some .long) 1 E [.long x0, .int x2] M (some (.long v)) M := by
  refine MetA.of (by decide +kernel) (Nat.le_of_ble_eq_true rfl) ?_
  intro p e s m below meth c C hr hnm
  exact G.sub [0, 1] rfl (gb_X4_moved_0 C hr  h)
def bb_X4_rimOf_0 (x0 : Int32) : Option Int64 := if x0 = (0 : Int32) then (some (72340172838076673 : Int64)) else (if x0 = (1 : Int32) then (some (-9187201950435737472 : Int64)) else (if x0 = (2 : Int32) then (some (255 : Int64)) else (some (-72057594037927936 : Int64))))
set_option maxHeartbeats 4000000 in
set_option maxRecDepth 100000 in
theorem gb_X4_rimOf_0 {M : Mm}  {x0 : Int32} {v : Int64} (C : Cx RX4 cX4_rimOf 1 p (rmD 1) s m args meth c E) (hr : meth.sig.returnType = (some .long)) (h : bb_X4_rimOf_0 x0 = some v) : G p l e (rmD 1) s m args below meth c E 1 0 0 (QR below args s E 0 0 (some (.long v)) M) 0 [(0, .int x0)] [] M := by
  unfold bb_X4_rimOf_0 at h
  refine G.iload_n C 0 dX4_rimOf_0 rfl rfl ?_
  by_cases hc0 : x0 = (0 : Int32)
  · have h := it_t h hc0
    refine G.tableIn (tgt := 28) C dX4_rimOf_1 (by rw [hc0]; decide) (by rw [hc0]; decide) (by rw [hc0]; rfl) (by decide) ?_
    refine G.ldc2 C tg_436 dX4_rimOf_28 ?_
    cases h
    exact G.lret C hr dX4_rimOf_31
  have h := it_f h hc0
  by_cases hc1 : x0 = (1 : Int32)
  · have h := it_t h hc1
    refine G.tableIn (tgt := 32) C dX4_rimOf_1 (by rw [hc1]; decide) (by rw [hc1]; decide) (by rw [hc1]; rfl) (by decide) ?_
    refine G.ldc2 C tg_575 dX4_rimOf_32 ?_
    cases h
    exact G.lret C hr dX4_rimOf_35
  have h := it_f h hc1
  by_cases hc2 : x0 = (2 : Int32)
  · have h := it_t h hc2
    refine G.tableIn (tgt := 36) C dX4_rimOf_1 (by rw [hc2]; decide) (by rw [hc2]; decide) (by rw [hc2]; rfl) (by decide) ?_
    refine G.ldc2 C tg_435 dX4_rimOf_36 ?_
    cases h
    exact G.lret C hr dX4_rimOf_39
  have h := it_f h hc2
  refine G.tableOut (tgt := 40) C dX4_rimOf_1 (by have q0 := ne_toInt (z := 0) (by decide) hc0; have q1 := ne_toInt (z := 1) (by decide) hc1; have q2 := ne_toInt (z := 2) (by decide) hc2; omega) (by decide) ?_
  refine G.ldc2 C tg_576 dX4_rimOf_40 ?_
  cases h
  exact G.lret C hr dX4_rimOf_43
def f_X4_rimOf (x0 : Int32) : Option Int64 := bb_X4_rimOf_0 x0
theorem s_X4_rimOf {l : Launch} {E : Ev} {x0 : Int32} {M : Mm} {v : Int64} (h : f_X4_rimOf x0 = some v) : MetA l yX4_rimOf cX4_rimOf 1 (some .long) 1 E [.int x0] M (some (.long v)) M := by
  refine MetA.of (by decide +kernel) (Nat.le_of_ble_eq_true rfl) ?_
  intro p e s m below meth c C hr hnm
  exact G.sub [0] rfl (gb_X4_rimOf_0 C hr  h)
def bb_X4_beside_5 (k_5 : Int64 → Int64 → Int32 → Option Int64) (x0 : Int64) (x2 : Int64) (x4 : Int32) : Option Int64 := if (4 : Int32) ≤ x4 then (some (x2 &&& (x0 ^^^ (-1 : Int64)))) else (bd (f_X4_moved x0 x4) fun v_2 => ltv (x2 ||| v_2) fun x2_3 => ltv (x4 + (1 : Int32)) fun x4_4 => k_5 x0 x2_3 x4_4)
set_option maxHeartbeats 4000000 in
set_option maxRecDepth 100000 in
theorem gb_X4_beside_5 {M : Mm}  {k_5 : Int64 → Int64 → Int32 → Option Int64} {x0 : Int64} {x2 : Int64} {x4 : Int32} {v : Int64} (C : Cx RX4 cX4_beside 5 p (rmD 2) s m args meth c E) (hr : meth.sig.returnType = (some .long)) (hk_5 : ∀ (x0 : Int64) (x2 : Int64) (x4 : Int32), k_5 x0 x2 x4 = some v → G p l e (rmD 2) s m args below meth c E 5 0 0 (QR below args s E 0 0 (some (.long v)) M) 5 [(0, .long x0), (2, .long x2), (4, .int x4)] [] M) (h : bb_X4_beside_5 k_5 x0 x2 x4 = some v) : G p l e (rmD 2) s m args below meth c E 5 0 0 (QR below args s E 0 0 (some (.long v)) M) 5 [(0, .long x0), (2, .long x2), (4, .int x4)] [] M := by
  unfold bb_X4_beside_5 at h
  refine G.iload C 2 dX4_beside_5 rfl ?_
  refine G.iconst (v := (4 : Int32)) C dX4_beside_7 (by decide) ?_
  refine G.icmp_ge (tgt := 26) C dX4_beside_8 (by decide) (fun hc => ?_) (fun hc => ?_)
  · have h := it_t h hc
    refine G.lload_n C 1 dX4_beside_26 rfl rfl ?_
    refine G.lload_n C 0 dX4_beside_27 rfl rfl ?_
    refine G.ldc2 C tg_469 dX4_beside_28 ?_
    refine G.lxor C dX4_beside_31 ?_
    refine G.land C dX4_beside_32 ?_
    cases h
    exact G.lret C hr dX4_beside_33
  · have h := it_f h hc
    refine G.lload_n C 1 dX4_beside_11 rfl rfl ?_
    refine G.lload_n C 0 dX4_beside_12 rfl rfl ?_
    refine G.iload C 2 dX4_beside_13 rfl ?_
    obtain ⟨v_2, hv_1, h⟩ := bd_ex h
    refine G.callS (rest := [.long x2]) C (s_X4_moved  hv_1) ⟨tg_466, tg_101, ok_X4_moved, Nat.le_of_ble_eq_true rfl, Nat.le_of_ble_eq_true rfl⟩ tg_464 tg_465 rfl (Nat.le_of_ble_eq_true rfl) dX4_beside_15 ⟨Nat.le_refl 0, Nat.le_refl 0⟩ ?_
    refine G.lor C dX4_beside_18 ?_
    obtain ⟨x2_3, ex2_3, h⟩ := ltv_ex h
    refine G.lstore_n (L' := [(2, .long x2_3), (0, .long x0), (4, .int x4)]) C dX4_beside_19 rfl ex2_3 (by decide) rfl ?_
    obtain ⟨x4_4, ex4_4, h⟩ := ltv_ex h
    refine G.iinc (L' := [(4, .int x4_4), (2, .long x2_3), (0, .long x0)]) C 2 dX4_beside_20 rfl (ex4_4.trans rfl) (by decide) rfl ?_
    refine G.goto (tgt := 5) C dX4_beside_23 (by decide) ?_
    exact G.sub [2, 1, 0] rfl (hk_5 _ _ _  h)
def b_X4_beside_5 : Nat → Int64 → Int64 → Int32 → Option Int64
  | 0, _, _, _ => none
  | n + 1, x0, x2, x4 => bb_X4_beside_5 (b_X4_beside_5 n) x0 x2 x4
set_option maxHeartbeats 4000000 in
theorem g_X4_beside_5 {M : Mm}  {n : Nat} {x0 : Int64} {x2 : Int64} {x4 : Int32} {v : Int64} (C : Cx RX4 cX4_beside 5 p (rmD 2) s m args meth c E) (hr : meth.sig.returnType = (some .long)) (h : b_X4_beside_5 n x0 x2 x4 = some v) : G p l e (rmD 2) s m args below meth c E 5 0 0 (QR below args s E 0 0 (some (.long v)) M) 5 [(0, .long x0), (2, .long x2), (4, .int x4)] [] M := by
  induction n generalizing x0 x2 x4 with
  | zero => cases h
  | succ n ih => exact gb_X4_beside_5 C hr (fun _ _ _ => ih)  h
def bb_X4_beside_0 (x0 : Int64) : Option Int64 := b_X4_beside_5 FU x0 (0 : Int64) (0 : Int32)
set_option maxHeartbeats 4000000 in
set_option maxRecDepth 100000 in
theorem gb_X4_beside_0 {M : Mm}  {x0 : Int64} {v : Int64} (C : Cx RX4 cX4_beside 5 p (rmD 2) s m args meth c E) (hr : meth.sig.returnType = (some .long)) (h : bb_X4_beside_0 x0 = some v) : G p l e (rmD 2) s m args below meth c E 5 0 0 (QR below args s E 0 0 (some (.long v)) M) 0 [(0, .long x0)] [] M := by
  unfold bb_X4_beside_0 at h
  refine G.lconst (v := (0 : Int64)) C dX4_beside_0 (by decide) ?_
  refine G.lstore_n (L' := [(2, .long (0 : Int64)), (0, .long x0)]) C dX4_beside_1 rfl rfl (by decide) rfl ?_
  refine G.iconst (v := (0 : Int32)) C dX4_beside_2 (by decide) ?_
  refine G.istore (L' := [(4, .int (0 : Int32)), (2, .long (0 : Int64)), (0, .long x0)]) C dX4_beside_3 rfl (by decide) rfl ?_
  exact G.sub [2, 1, 0] rfl (g_X4_beside_5 C hr  h)
def f_X4_beside (x0 : Int64) : Option Int64 := bb_X4_beside_0 x0
theorem s_X4_beside {l : Launch} {E : Ev} {x0 : Int64} {M : Mm} {v : Int64} (h : f_X4_beside x0 = some v) : MetA l yX4_beside cX4_beside 5 (some .long) 2 E [.long x0] M (some (.long v)) M := by
  refine MetA.of (by decide +kernel) (Nat.le_of_ble_eq_true rfl) ?_
  intro p e s m below meth c C hr hnm
  exact G.sub [0] rfl (gb_X4_beside_0 C hr  h)
def bb_X4_reachedFrom_14 (k_14 : Int64 → Int32 → Int64 → Int32 → Option Int64) (x0 : Int64) (x2 : Int32) (x3 : Int64) (x5 : Int32) : Option Int64 := if (7 : Int32) ≤ x5 then (some x3) else (bd (f_X4_moved x3 x2) fun v_5 => ltv (x3 ||| (v_5 &&& (x0 ^^^ (-1 : Int64)))) fun x3_6 => ltv (x5 + (1 : Int32)) fun x5_7 => k_14 x0 x2 x3_6 x5_7)
set_option maxHeartbeats 4000000 in
set_option maxRecDepth 100000 in
theorem gb_X4_reachedFrom_14 {M : Mm}  {k_14 : Int64 → Int32 → Int64 → Int32 → Option Int64} {x0 : Int64} {x2 : Int32} {x3 : Int64} {x5 : Int32} {v : Int64} (C : Cx RX4 cX4_reachedFrom 6 p (rmD 2) s m args meth c E) (hr : meth.sig.returnType = (some .long)) (hk_14 : ∀ (x0 : Int64) (x2 : Int32) (x3 : Int64) (x5 : Int32), k_14 x0 x2 x3 x5 = some v → G p l e (rmD 2) s m args below meth c E 6 0 0 (QR below args s E 0 0 (some (.long v)) M) 14 [(0, .long x0), (2, .int x2), (3, .long x3), (5, .int x5)] [] M) (h : bb_X4_reachedFrom_14 k_14 x0 x2 x3 x5 = some v) : G p l e (rmD 2) s m args below meth c E 6 0 0 (QR below args s E 0 0 (some (.long v)) M) 14 [(0, .long x0), (2, .int x2), (3, .long x3), (5, .int x5)] [] M := by
  unfold bb_X4_reachedFrom_14 at h
  refine G.iload C 3 dX4_reachedFrom_14 rfl ?_
  refine G.bipush (v := (7 : Int32)) C dX4_reachedFrom_16 (by decide) ?_
  refine G.icmp_ge (tgt := 41) C dX4_reachedFrom_18 (by decide) (fun hc => ?_) (fun hc => ?_)
  · have h := it_t h hc
    refine G.lload_n C 2 dX4_reachedFrom_41 rfl rfl ?_
    cases h
    exact G.lret C hr dX4_reachedFrom_42
  · have h := it_f h hc
    refine G.lload_n C 2 dX4_reachedFrom_21 rfl rfl ?_
    refine G.lload_n C 2 dX4_reachedFrom_22 rfl rfl ?_
    refine G.iload_n C 1 dX4_reachedFrom_23 rfl rfl ?_
    obtain ⟨v_5, hv_4, h⟩ := bd_ex h
    refine G.callS (rest := [.long x3]) C (s_X4_moved  hv_4) ⟨tg_466, tg_101, ok_X4_moved, Nat.le_of_ble_eq_true rfl, Nat.le_of_ble_eq_true rfl⟩ tg_464 tg_465 rfl (Nat.le_of_ble_eq_true rfl) dX4_reachedFrom_24 ⟨Nat.le_refl 0, Nat.le_refl 0⟩ ?_
    refine G.lload_n C 0 dX4_reachedFrom_27 rfl rfl ?_
    refine G.ldc2 C tg_469 dX4_reachedFrom_28 ?_
    refine G.lxor C dX4_reachedFrom_31 ?_
    refine G.land C dX4_reachedFrom_32 ?_
    refine G.lor C dX4_reachedFrom_33 ?_
    obtain ⟨x3_6, ex3_6, h⟩ := ltv_ex h
    refine G.lstore_n (L' := [(3, .long x3_6), (0, .long x0), (2, .int x2), (5, .int x5)]) C dX4_reachedFrom_34 rfl ex3_6 (by decide) rfl ?_
    obtain ⟨x5_7, ex5_7, h⟩ := ltv_ex h
    refine G.iinc (L' := [(5, .int x5_7), (3, .long x3_6), (0, .long x0), (2, .int x2)]) C 3 dX4_reachedFrom_35 rfl (ex5_7.trans rfl) (by decide) rfl ?_
    refine G.goto (tgt := 14) C dX4_reachedFrom_38 (by decide) ?_
    exact G.sub [2, 3, 1, 0] rfl (hk_14 _ _ _ _  h)
def b_X4_reachedFrom_14 : Nat → Int64 → Int32 → Int64 → Int32 → Option Int64
  | 0, _, _, _, _ => none
  | n + 1, x0, x2, x3, x5 => bb_X4_reachedFrom_14 (b_X4_reachedFrom_14 n) x0 x2 x3 x5
set_option maxHeartbeats 4000000 in
theorem g_X4_reachedFrom_14 {M : Mm}  {n : Nat} {x0 : Int64} {x2 : Int32} {x3 : Int64} {x5 : Int32} {v : Int64} (C : Cx RX4 cX4_reachedFrom 6 p (rmD 2) s m args meth c E) (hr : meth.sig.returnType = (some .long)) (h : b_X4_reachedFrom_14 n x0 x2 x3 x5 = some v) : G p l e (rmD 2) s m args below meth c E 6 0 0 (QR below args s E 0 0 (some (.long v)) M) 14 [(0, .long x0), (2, .int x2), (3, .long x3), (5, .int x5)] [] M := by
  induction n generalizing x0 x2 x3 x5 with
  | zero => cases h
  | succ n ih => exact gb_X4_reachedFrom_14 C hr (fun _ _ _ _ => ih)  h
def bb_X4_reachedFrom_0 (x0 : Int64) (x2 : Int32) : Option Int64 := bd (f_X4_rimOf x2) fun v_2 => ltv (v_2 &&& (x0 ^^^ (-1 : Int64))) fun x3_3 => b_X4_reachedFrom_14 FU x0 x2 x3_3 (0 : Int32)
set_option maxHeartbeats 4000000 in
set_option maxRecDepth 100000 in
theorem gb_X4_reachedFrom_0 {M : Mm}  {x0 : Int64} {x2 : Int32} {v : Int64} (C : Cx RX4 cX4_reachedFrom 6 p (rmD 2) s m args meth c E) (hr : meth.sig.returnType = (some .long)) (h : bb_X4_reachedFrom_0 x0 x2 = some v) : G p l e (rmD 2) s m args below meth c E 6 0 0 (QR below args s E 0 0 (some (.long v)) M) 0 [(0, .long x0), (2, .int x2)] [] M := by
  unfold bb_X4_reachedFrom_0 at h
  refine G.iload_n C 1 dX4_reachedFrom_0 rfl rfl ?_
  obtain ⟨v_2, hv_1, h⟩ := bd_ex h
  refine G.callS (rest := []) C (s_X4_rimOf  hv_1) ⟨tg_574, tg_101, ok_X4_rimOf, Nat.le_of_ble_eq_true rfl, Nat.le_of_ble_eq_true rfl⟩ tg_572 tg_573 rfl (Nat.le_of_ble_eq_true rfl) dX4_reachedFrom_1 ⟨Nat.le_refl 0, Nat.le_refl 0⟩ ?_
  refine G.lload_n C 0 dX4_reachedFrom_4 rfl rfl ?_
  refine G.ldc2 C tg_469 dX4_reachedFrom_5 ?_
  refine G.lxor C dX4_reachedFrom_8 ?_
  refine G.land C dX4_reachedFrom_9 ?_
  obtain ⟨x3_3, ex3_3, h⟩ := ltv_ex h
  refine G.lstore_n (L' := [(3, .long x3_3), (0, .long x0), (2, .int x2)]) C dX4_reachedFrom_10 rfl ex3_3 (by decide) rfl ?_
  refine G.iconst (v := (0 : Int32)) C dX4_reachedFrom_11 (by decide) ?_
  refine G.istore (L' := [(5, .int (0 : Int32)), (3, .long x3_3), (0, .long x0), (2, .int x2)]) C dX4_reachedFrom_12 rfl (by decide) rfl ?_
  exact G.sub [2, 3, 1, 0] rfl (g_X4_reachedFrom_14 C hr  h)
def f_X4_reachedFrom (x0 : Int64) (x2 : Int32) : Option Int64 := bb_X4_reachedFrom_0 x0 x2
theorem s_X4_reachedFrom {l : Launch} {E : Ev} {x0 : Int64} {x2 : Int32} {M : Mm} {v : Int64} (h : f_X4_reachedFrom x0 x2 = some v) : MetA l yX4_reachedFrom cX4_reachedFrom 6 (some .long) 2 E [.long x0, .int x2] M (some (.long v)) M := by
  refine MetA.of (by decide +kernel) (Nat.le_of_ble_eq_true rfl) ?_
  intro p e s m below meth c C hr hnm
  exact G.sub [0, 1] rfl (gb_X4_reachedFrom_0 C hr  h)
def bb_X4_reached_5 (k_5 : Int64 → Int64 → Int32 → Option Int64) (x0 : Int64) (x2 : Int64) (x4 : Int32) : Option Int64 := if (4 : Int32) ≤ x4 then (some x2) else (bd (f_X4_reachedFrom x0 x4) fun v_2 => ltv (x2 ||| v_2) fun x2_3 => ltv (x4 + (1 : Int32)) fun x4_4 => k_5 x0 x2_3 x4_4)
set_option maxHeartbeats 4000000 in
set_option maxRecDepth 100000 in
theorem gb_X4_reached_5 {M : Mm}  {k_5 : Int64 → Int64 → Int32 → Option Int64} {x0 : Int64} {x2 : Int64} {x4 : Int32} {v : Int64} (C : Cx RX4 cX4_reached 5 p (rmD 3) s m args meth c E) (hr : meth.sig.returnType = (some .long)) (hk_5 : ∀ (x0 : Int64) (x2 : Int64) (x4 : Int32), k_5 x0 x2 x4 = some v → G p l e (rmD 3) s m args below meth c E 5 0 0 (QR below args s E 0 0 (some (.long v)) M) 5 [(0, .long x0), (2, .long x2), (4, .int x4)] [] M) (h : bb_X4_reached_5 k_5 x0 x2 x4 = some v) : G p l e (rmD 3) s m args below meth c E 5 0 0 (QR below args s E 0 0 (some (.long v)) M) 5 [(0, .long x0), (2, .long x2), (4, .int x4)] [] M := by
  unfold bb_X4_reached_5 at h
  refine G.iload C 2 dX4_reached_5 rfl ?_
  refine G.iconst (v := (4 : Int32)) C dX4_reached_7 (by decide) ?_
  refine G.icmp_ge (tgt := 26) C dX4_reached_8 (by decide) (fun hc => ?_) (fun hc => ?_)
  · have h := it_t h hc
    refine G.lload_n C 1 dX4_reached_26 rfl rfl ?_
    cases h
    exact G.lret C hr dX4_reached_27
  · have h := it_f h hc
    refine G.lload_n C 1 dX4_reached_11 rfl rfl ?_
    refine G.lload_n C 0 dX4_reached_12 rfl rfl ?_
    refine G.iload C 2 dX4_reached_13 rfl ?_
    obtain ⟨v_2, hv_1, h⟩ := bd_ex h
    refine G.callS (rest := [.long x2]) C (s_X4_reachedFrom  hv_1) ⟨tg_571, tg_101, ok_X4_reachedFrom, Nat.le_of_ble_eq_true rfl, Nat.le_of_ble_eq_true rfl⟩ tg_586 tg_570 rfl (Nat.le_of_ble_eq_true rfl) dX4_reached_15 ⟨Nat.le_refl 0, Nat.le_refl 0⟩ ?_
    refine G.lor C dX4_reached_18 ?_
    obtain ⟨x2_3, ex2_3, h⟩ := ltv_ex h
    refine G.lstore_n (L' := [(2, .long x2_3), (0, .long x0), (4, .int x4)]) C dX4_reached_19 rfl ex2_3 (by decide) rfl ?_
    obtain ⟨x4_4, ex4_4, h⟩ := ltv_ex h
    refine G.iinc (L' := [(4, .int x4_4), (2, .long x2_3), (0, .long x0)]) C 2 dX4_reached_20 rfl (ex4_4.trans rfl) (by decide) rfl ?_
    refine G.goto (tgt := 5) C dX4_reached_23 (by decide) ?_
    exact G.sub [2, 1, 0] rfl (hk_5 _ _ _  h)
def b_X4_reached_5 : Nat → Int64 → Int64 → Int32 → Option Int64
  | 0, _, _, _ => none
  | n + 1, x0, x2, x4 => bb_X4_reached_5 (b_X4_reached_5 n) x0 x2 x4
set_option maxHeartbeats 4000000 in
theorem g_X4_reached_5 {M : Mm}  {n : Nat} {x0 : Int64} {x2 : Int64} {x4 : Int32} {v : Int64} (C : Cx RX4 cX4_reached 5 p (rmD 3) s m args meth c E) (hr : meth.sig.returnType = (some .long)) (h : b_X4_reached_5 n x0 x2 x4 = some v) : G p l e (rmD 3) s m args below meth c E 5 0 0 (QR below args s E 0 0 (some (.long v)) M) 5 [(0, .long x0), (2, .long x2), (4, .int x4)] [] M := by
  induction n generalizing x0 x2 x4 with
  | zero => cases h
  | succ n ih => exact gb_X4_reached_5 C hr (fun _ _ _ => ih)  h
def bb_X4_reached_0 (x0 : Int64) : Option Int64 := b_X4_reached_5 FU x0 (0 : Int64) (0 : Int32)
set_option maxHeartbeats 4000000 in
set_option maxRecDepth 100000 in
theorem gb_X4_reached_0 {M : Mm}  {x0 : Int64} {v : Int64} (C : Cx RX4 cX4_reached 5 p (rmD 3) s m args meth c E) (hr : meth.sig.returnType = (some .long)) (h : bb_X4_reached_0 x0 = some v) : G p l e (rmD 3) s m args below meth c E 5 0 0 (QR below args s E 0 0 (some (.long v)) M) 0 [(0, .long x0)] [] M := by
  unfold bb_X4_reached_0 at h
  refine G.lconst (v := (0 : Int64)) C dX4_reached_0 (by decide) ?_
  refine G.lstore_n (L' := [(2, .long (0 : Int64)), (0, .long x0)]) C dX4_reached_1 rfl rfl (by decide) rfl ?_
  refine G.iconst (v := (0 : Int32)) C dX4_reached_2 (by decide) ?_
  refine G.istore (L' := [(4, .int (0 : Int32)), (2, .long (0 : Int64)), (0, .long x0)]) C dX4_reached_3 rfl (by decide) rfl ?_
  exact G.sub [2, 1, 0] rfl (g_X4_reached_5 C hr  h)
def f_X4_reached (x0 : Int64) : Option Int64 := bb_X4_reached_0 x0
theorem s_X4_reached {l : Launch} {E : Ev} {x0 : Int64} {M : Mm} {v : Int64} (h : f_X4_reached x0 = some v) : MetA l yX4_reached cX4_reached 5 (some .long) 3 E [.long x0] M (some (.long v)) M := by
  refine MetA.of (by decide +kernel) (Nat.le_of_ble_eq_true rfl) ?_
  intro p e s m below meth c C hr hnm
  exact G.sub [0] rfl (gb_X4_reached_0 C hr  h)
def bb_X4_hidden_0 (x0 : Int64) : Option Int64 := bd (f_X4_reached x0) fun v_2 => some ((x0 ^^^ (-1 : Int64)) &&& (v_2 ^^^ (-1 : Int64)))
set_option maxHeartbeats 4000000 in
set_option maxRecDepth 100000 in
theorem gb_X4_hidden_0 {M : Mm}  {x0 : Int64} {v : Int64} (C : Cx RX4 cX4_hidden 2 p (rmD 4) s m args meth c E) (hr : meth.sig.returnType = (some .long)) (h : bb_X4_hidden_0 x0 = some v) : G p l e (rmD 4) s m args below meth c E 2 0 0 (QR below args s E 0 0 (some (.long v)) M) 0 [(0, .long x0)] [] M := by
  unfold bb_X4_hidden_0 at h
  refine G.lload_n C 0 dX4_hidden_0 rfl rfl ?_
  refine G.ldc2 C tg_469 dX4_hidden_1 ?_
  refine G.lxor C dX4_hidden_4 ?_
  refine G.lload_n C 0 dX4_hidden_5 rfl rfl ?_
  obtain ⟨v_2, hv_1, h⟩ := bd_ex h
  refine G.callS (rest := [.long (x0 ^^^ (-1 : Int64))]) C (s_X4_reached  hv_1) ⟨tg_585, tg_101, ok_X4_reached, Nat.le_of_ble_eq_true rfl, Nat.le_of_ble_eq_true rfl⟩ tg_871 tg_584 rfl (Nat.le_of_ble_eq_true rfl) dX4_hidden_6 ⟨Nat.le_refl 0, Nat.le_refl 0⟩ ?_
  refine G.ldc2 C tg_469 dX4_hidden_9 ?_
  refine G.lxor C dX4_hidden_12 ?_
  refine G.land C dX4_hidden_13 ?_
  cases h
  exact G.lret C hr dX4_hidden_14
def f_X4_hidden (x0 : Int64) : Option Int64 := bb_X4_hidden_0 x0
theorem s_X4_hidden {l : Launch} {E : Ev} {x0 : Int64} {M : Mm} {v : Int64} (h : f_X4_hidden x0 = some v) : MetA l yX4_hidden cX4_hidden 2 (some .long) 4 E [.long x0] M (some (.long v)) M := by
  refine MetA.of (by decide +kernel) (Nat.le_of_ble_eq_true rfl) ?_
  intro p e s m below meth c C hr hnm
  exact G.sub [0] rfl (gb_X4_hidden_0 C hr  h)
def bb_X4_broad_8 (k_8 : Int64 → Int32 → Int32 → Int32 → Option Int32) (x0 : Int64) (x2 : Int32) (x3 : Int32) (x4 : Int32) : Option Int32 := if (8 : Int32) ≤ x4 then (if 0 ≤ x3 then (some ((x3 - x2) + (1 : Int32))) else (some (0 : Int32))) else (if (x0 &&& (shL (72340172838076673 : Int64) x4)) = (0 : Int64) then (ltv (x4 + (1 : Int32)) fun x4_1 => k_8 x0 x2 x3 x4_1) else (ltv (if x4 < x2 then x4 else x2) fun x2_2 => ltv (x4 + (1 : Int32)) fun x4_3 => k_8 x0 x2_2 x4 x4_3))
set_option maxHeartbeats 4000000 in
set_option maxRecDepth 100000 in
theorem gb_X4_broad_8 {M : Mm}  {k_8 : Int64 → Int32 → Int32 → Int32 → Option Int32} {x0 : Int64} {x2 : Int32} {x3 : Int32} {x4 : Int32} {v : Int32} (C : Cx RX4 cX4_broad 5 p (rmD 1) s m args meth c E) (hr : meth.sig.returnType = (some .int)) (hk_8 : ∀ (x0 : Int64) (x2 : Int32) (x3 : Int32) (x4 : Int32), k_8 x0 x2 x3 x4 = some v → G p l e (rmD 1) s m args below meth c E 5 0 0 (QR below args s E 0 0 (some (.int v)) M) 8 [(0, .long x0), (2, .int x2), (3, .int x3), (4, .int x4)] [] M) (h : bb_X4_broad_8 k_8 x0 x2 x3 x4 = some v) : G p l e (rmD 1) s m args below meth c E 5 0 0 (QR below args s E 0 0 (some (.int v)) M) 8 [(0, .long x0), (2, .int x2), (3, .int x3), (4, .int x4)] [] M := by
  unfold bb_X4_broad_8 at h
  refine G.iload C 3 dX4_broad_8 rfl ?_
  refine G.bipush (v := (8 : Int32)) C dX4_broad_10 (by decide) ?_
  refine G.icmp_ge (tgt := 44) C dX4_broad_12 (by decide) (fun hc => ?_) (fun hc => ?_)
  · have h := it_t h hc
    refine G.iload_n C 2 dX4_broad_44 rfl rfl ?_
    refine G.if_ge (tgt := 52) C dX4_broad_45 (by decide) (fun hc => ?_) (fun hc => ?_)
    · have h := it_t h hc
      refine G.iload_n C 2 dX4_broad_52 rfl rfl ?_
      refine G.iload_n C 1 dX4_broad_53 rfl rfl ?_
      refine G.isub C dX4_broad_54 ?_
      refine G.iconst (v := (1 : Int32)) C dX4_broad_55 (by decide) ?_
      refine G.iadd C dX4_broad_56 ?_
      cases h
      exact G.iret C hr dX4_broad_57
    · have h := it_f h hc
      refine G.iconst (v := (0 : Int32)) C dX4_broad_48 (by decide) ?_
      refine G.goto (tgt := 57) C dX4_broad_49 (by decide) ?_
      cases h
      exact G.iret C hr dX4_broad_57
  · have h := it_f h hc
    refine G.lload_n C 0 dX4_broad_15 rfl rfl ?_
    refine G.ldc2 C tg_436 dX4_broad_16 ?_
    refine G.iload C 3 dX4_broad_19 rfl ?_
    refine G.lshl (v := shL (72340172838076673 : Int64) x4) C dX4_broad_21 rfl ?_
    refine G.land C dX4_broad_22 ?_
    refine G.lconst (v := (0 : Int64)) C dX4_broad_23 (by decide) ?_
    refine G.lcmp C dX4_broad_24 (G.if_eq (tgt := 38) C dX4_broad_25 (by decide) (fun hc => ?_) (fun hc => ?_))
    · have h := it_t h (lgc_eq.mp hc)
      obtain ⟨x4_1, ex4_1, h⟩ := ltv_ex h
      refine G.iinc (L' := [(4, .int x4_1), (0, .long x0), (2, .int x2), (3, .int x3)]) C 3 dX4_broad_38 rfl (ex4_1.trans rfl) (by decide) rfl ?_
      refine G.goto (tgt := 8) C dX4_broad_41 (by decide) ?_
      exact G.sub [1, 2, 3, 0] rfl (hk_8 _ _ _ _  h)
    · have h := it_f h ((not_congr lgc_eq).mp hc)
      refine G.iload_n C 1 dX4_broad_28 rfl rfl ?_
      refine G.iload C 3 dX4_broad_29 rfl ?_
      refine G.mmin (rest := []) C tg_473 tg_421 tg_100 tg_422 ⟨Nat.le_of_ble_eq_true rfl, Nat.le_of_ble_eq_true rfl⟩ (Nat.le_of_ble_eq_true rfl) ⟨Nat.le_refl 0, Nat.le_refl 0⟩ dX4_broad_31 ?_
      obtain ⟨x2_2, ex2_2, h⟩ := ltv_ex h
      refine G.istore_n (L' := [(2, .int x2_2), (0, .long x0), (3, .int x3), (4, .int x4)]) C dX4_broad_34 rfl ex2_2 (by decide) rfl ?_
      refine G.iload C 3 dX4_broad_35 rfl ?_
      refine G.istore_n (L' := [(3, .int x4), (2, .int x2_2), (0, .long x0), (4, .int x4)]) C dX4_broad_37 rfl rfl (by decide) rfl ?_
      obtain ⟨x4_3, ex4_3, h⟩ := ltv_ex h
      refine G.iinc (L' := [(4, .int x4_3), (3, .int x4), (2, .int x2_2), (0, .long x0)]) C 3 dX4_broad_38 rfl (ex4_3.trans rfl) (by decide) rfl ?_
      refine G.goto (tgt := 8) C dX4_broad_41 (by decide) ?_
      exact G.sub [3, 2, 1, 0] rfl (hk_8 _ _ _ _  h)
def b_X4_broad_8 : Nat → Int64 → Int32 → Int32 → Int32 → Option Int32
  | 0, _, _, _, _ => none
  | n + 1, x0, x2, x3, x4 => bb_X4_broad_8 (b_X4_broad_8 n) x0 x2 x3 x4
set_option maxHeartbeats 4000000 in
theorem g_X4_broad_8 {M : Mm}  {n : Nat} {x0 : Int64} {x2 : Int32} {x3 : Int32} {x4 : Int32} {v : Int32} (C : Cx RX4 cX4_broad 5 p (rmD 1) s m args meth c E) (hr : meth.sig.returnType = (some .int)) (h : b_X4_broad_8 n x0 x2 x3 x4 = some v) : G p l e (rmD 1) s m args below meth c E 5 0 0 (QR below args s E 0 0 (some (.int v)) M) 8 [(0, .long x0), (2, .int x2), (3, .int x3), (4, .int x4)] [] M := by
  induction n generalizing x0 x2 x3 x4 with
  | zero => cases h
  | succ n ih => exact gb_X4_broad_8 C hr (fun _ _ _ _ => ih)  h
def bb_X4_broad_0 (x0 : Int64) : Option Int32 := b_X4_broad_8 FU x0 (8 : Int32) (-1 : Int32) (0 : Int32)
set_option maxHeartbeats 4000000 in
set_option maxRecDepth 100000 in
theorem gb_X4_broad_0 {M : Mm}  {x0 : Int64} {v : Int32} (C : Cx RX4 cX4_broad 5 p (rmD 1) s m args meth c E) (hr : meth.sig.returnType = (some .int)) (h : bb_X4_broad_0 x0 = some v) : G p l e (rmD 1) s m args below meth c E 5 0 0 (QR below args s E 0 0 (some (.int v)) M) 0 [(0, .long x0)] [] M := by
  unfold bb_X4_broad_0 at h
  refine G.bipush (v := (8 : Int32)) C dX4_broad_0 (by decide) ?_
  refine G.istore_n (L' := [(2, .int (8 : Int32)), (0, .long x0)]) C dX4_broad_2 rfl rfl (by decide) rfl ?_
  refine G.iconst (v := (-1 : Int32)) C dX4_broad_3 (by decide) ?_
  refine G.istore_n (L' := [(3, .int (-1 : Int32)), (2, .int (8 : Int32)), (0, .long x0)]) C dX4_broad_4 rfl rfl (by decide) rfl ?_
  refine G.iconst (v := (0 : Int32)) C dX4_broad_5 (by decide) ?_
  refine G.istore (L' := [(4, .int (0 : Int32)), (3, .int (-1 : Int32)), (2, .int (8 : Int32)), (0, .long x0)]) C dX4_broad_6 rfl (by decide) rfl ?_
  exact G.sub [3, 2, 1, 0] rfl (g_X4_broad_8 C hr  h)
def f_X4_broad (x0 : Int64) : Option Int32 := bb_X4_broad_0 x0
theorem s_X4_broad {l : Launch} {E : Ev} {x0 : Int64} {M : Mm} {v : Int32} (h : f_X4_broad x0 = some v) : MetA l yX4_broad cX4_broad 5 (some .int) 1 E [.long x0] M (some (.int v)) M := by
  refine MetA.of (by decide +kernel) (Nat.le_of_ble_eq_true rfl) ?_
  intro p e s m below meth c C hr hnm
  exact G.sub [0] rfl (gb_X4_broad_0 C hr  h)
def bb_X4_toCorner_36 (k_36 : Int64 → Int32 → Option Int64) (x2 : Int64) (x4 : Int32) : Option Int64 := if (7 : Int32) ≤ x4 then (some x2) else (if (x2 &&& (72340172838076673 : Int64)) = (0 : Int64) then (ltv (ushL x2 (1 : Int32)) fun x2_3 => ltv (x4 + (1 : Int32)) fun x4_4 => k_36 x2_3 x4_4) else (some x2))
set_option maxHeartbeats 4000000 in
set_option maxRecDepth 100000 in
theorem gb_X4_toCorner_36 {M : Mm}  {k_36 : Int64 → Int32 → Option Int64} {x2 : Int64} {x4 : Int32} {v : Int64} (C : Cx RX4 cX4_toCorner 5 p (rmD 1) s m args meth c E) (hr : meth.sig.returnType = (some .long)) (hk_36 : ∀ (x2 : Int64) (x4 : Int32), k_36 x2 x4 = some v → G p l e (rmD 1) s m args below meth c E 5 0 0 (QR below args s E 0 0 (some (.long v)) M) 36 [(2, .long x2), (4, .int x4)] [] M) (h : bb_X4_toCorner_36 k_36 x2 x4 = some v) : G p l e (rmD 1) s m args below meth c E 5 0 0 (QR below args s E 0 0 (some (.long v)) M) 36 [(2, .long x2), (4, .int x4)] [] M := by
  unfold bb_X4_toCorner_36 at h
  refine G.iload C 1 dX4_toCorner_36 rfl ?_
  refine G.bipush (v := (7 : Int32)) C dX4_toCorner_38 (by decide) ?_
  refine G.icmp_ge (tgt := 63) C dX4_toCorner_40 (by decide) (fun hc => ?_) (fun hc => ?_)
  · have h := it_t h hc
    refine G.lload_n C 0 dX4_toCorner_63 rfl rfl ?_
    cases h
    exact G.lret C hr dX4_toCorner_64
  · have h := it_f h hc
    refine G.lload_n C 0 dX4_toCorner_43 rfl rfl ?_
    refine G.ldc2 C tg_436 dX4_toCorner_44 ?_
    refine G.land C dX4_toCorner_47 ?_
    refine G.lconst (v := (0 : Int64)) C dX4_toCorner_48 (by decide) ?_
    refine G.lcmp C dX4_toCorner_49 (G.if_ne (tgt := 63) C dX4_toCorner_50 (by decide) (fun hc => ?_) (fun hc => ?_))
    · have h := it_f h (lgc_ne.mp hc)
      refine G.lload_n C 0 dX4_toCorner_63 rfl rfl ?_
      cases h
      exact G.lret C hr dX4_toCorner_64
    · have h := it_t h (lgc_eq.mp hc)
      refine G.lload_n C 0 dX4_toCorner_53 rfl rfl ?_
      refine G.iconst (v := (1 : Int32)) C dX4_toCorner_54 (by decide) ?_
      refine G.lushr (v := ushL x2 (1 : Int32)) C dX4_toCorner_55 rfl ?_
      obtain ⟨x2_3, ex2_3, h⟩ := ltv_ex h
      refine G.lstore_n (L' := [(2, .long x2_3), (4, .int x4)]) C dX4_toCorner_56 rfl ex2_3 (by decide) rfl ?_
      obtain ⟨x4_4, ex4_4, h⟩ := ltv_ex h
      refine G.iinc (L' := [(4, .int x4_4), (2, .long x2_3)]) C 1 dX4_toCorner_57 rfl (ex4_4.trans rfl) (by decide) rfl ?_
      refine G.goto (tgt := 36) C dX4_toCorner_60 (by decide) ?_
      exact G.sub [1, 0] rfl (hk_36 _ _  h)
def b_X4_toCorner_36 : Nat → Int64 → Int32 → Option Int64
  | 0, _, _ => none
  | n + 1, x2, x4 => bb_X4_toCorner_36 (b_X4_toCorner_36 n) x2 x4
set_option maxHeartbeats 4000000 in
theorem g_X4_toCorner_36 {M : Mm}  {n : Nat} {x2 : Int64} {x4 : Int32} {v : Int64} (C : Cx RX4 cX4_toCorner 5 p (rmD 1) s m args meth c E) (hr : meth.sig.returnType = (some .long)) (h : b_X4_toCorner_36 n x2 x4 = some v) : G p l e (rmD 1) s m args below meth c E 5 0 0 (QR below args s E 0 0 (some (.long v)) M) 36 [(2, .long x2), (4, .int x4)] [] M := by
  induction n generalizing x2 x4 with
  | zero => cases h
  | succ n ih => exact gb_X4_toCorner_36 C hr (fun _ _ => ih)  h
def bb_X4_toCorner_5 (k_5 : Int64 → Int32 → Option Int64) (x2 : Int64) (x4 : Int32) : Option Int64 := if (7 : Int32) ≤ x4 then (b_X4_toCorner_36 FU x2 (0 : Int32)) else (if (x2 &&& (255 : Int64)) = (0 : Int64) then (ltv (ushL x2 (8 : Int32)) fun x2_1 => ltv (x4 + (1 : Int32)) fun x4_2 => k_5 x2_1 x4_2) else (b_X4_toCorner_36 FU x2 (0 : Int32)))
set_option maxHeartbeats 4000000 in
set_option maxRecDepth 100000 in
theorem gb_X4_toCorner_5 {M : Mm}  {k_5 : Int64 → Int32 → Option Int64} {x2 : Int64} {x4 : Int32} {v : Int64} (C : Cx RX4 cX4_toCorner 5 p (rmD 1) s m args meth c E) (hr : meth.sig.returnType = (some .long)) (hk_5 : ∀ (x2 : Int64) (x4 : Int32), k_5 x2 x4 = some v → G p l e (rmD 1) s m args below meth c E 5 0 0 (QR below args s E 0 0 (some (.long v)) M) 5 [(2, .long x2), (4, .int x4)] [] M) (h : bb_X4_toCorner_5 k_5 x2 x4 = some v) : G p l e (rmD 1) s m args below meth c E 5 0 0 (QR below args s E 0 0 (some (.long v)) M) 5 [(2, .long x2), (4, .int x4)] [] M := by
  unfold bb_X4_toCorner_5 at h
  refine G.iload C 1 dX4_toCorner_5 rfl ?_
  refine G.bipush (v := (7 : Int32)) C dX4_toCorner_7 (by decide) ?_
  refine G.icmp_ge (tgt := 33) C dX4_toCorner_9 (by decide) (fun hc => ?_) (fun hc => ?_)
  · have h := it_t h hc
    refine G.iconst (v := (0 : Int32)) C dX4_toCorner_33 (by decide) ?_
    refine G.istore (L' := [(4, .int (0 : Int32)), (2, .long x2)]) C dX4_toCorner_34 rfl (by decide) rfl ?_
    exact G.sub [1, 0] rfl (g_X4_toCorner_36 C hr  h)
  · have h := it_f h hc
    refine G.lload_n C 0 dX4_toCorner_12 rfl rfl ?_
    refine G.ldc2 C tg_435 dX4_toCorner_13 ?_
    refine G.land C dX4_toCorner_16 ?_
    refine G.lconst (v := (0 : Int64)) C dX4_toCorner_17 (by decide) ?_
    refine G.lcmp C dX4_toCorner_18 (G.if_ne (tgt := 33) C dX4_toCorner_19 (by decide) (fun hc => ?_) (fun hc => ?_))
    · have h := it_f h (lgc_ne.mp hc)
      refine G.iconst (v := (0 : Int32)) C dX4_toCorner_33 (by decide) ?_
      refine G.istore (L' := [(4, .int (0 : Int32)), (2, .long x2)]) C dX4_toCorner_34 rfl (by decide) rfl ?_
      exact G.sub [1, 0] rfl (g_X4_toCorner_36 C hr  h)
    · have h := it_t h (lgc_eq.mp hc)
      refine G.lload_n C 0 dX4_toCorner_22 rfl rfl ?_
      refine G.bipush (v := (8 : Int32)) C dX4_toCorner_23 (by decide) ?_
      refine G.lushr (v := ushL x2 (8 : Int32)) C dX4_toCorner_25 rfl ?_
      obtain ⟨x2_1, ex2_1, h⟩ := ltv_ex h
      refine G.lstore_n (L' := [(2, .long x2_1), (4, .int x4)]) C dX4_toCorner_26 rfl ex2_1 (by decide) rfl ?_
      obtain ⟨x4_2, ex4_2, h⟩ := ltv_ex h
      refine G.iinc (L' := [(4, .int x4_2), (2, .long x2_1)]) C 1 dX4_toCorner_27 rfl (ex4_2.trans rfl) (by decide) rfl ?_
      refine G.goto (tgt := 5) C dX4_toCorner_30 (by decide) ?_
      exact G.sub [1, 0] rfl (hk_5 _ _  h)
def b_X4_toCorner_5 : Nat → Int64 → Int32 → Option Int64
  | 0, _, _ => none
  | n + 1, x2, x4 => bb_X4_toCorner_5 (b_X4_toCorner_5 n) x2 x4
set_option maxHeartbeats 4000000 in
theorem g_X4_toCorner_5 {M : Mm}  {n : Nat} {x2 : Int64} {x4 : Int32} {v : Int64} (C : Cx RX4 cX4_toCorner 5 p (rmD 1) s m args meth c E) (hr : meth.sig.returnType = (some .long)) (h : b_X4_toCorner_5 n x2 x4 = some v) : G p l e (rmD 1) s m args below meth c E 5 0 0 (QR below args s E 0 0 (some (.long v)) M) 5 [(2, .long x2), (4, .int x4)] [] M := by
  induction n generalizing x2 x4 with
  | zero => cases h
  | succ n ih => exact gb_X4_toCorner_5 C hr (fun _ _ => ih)  h
def bb_X4_toCorner_0 (x0 : Int64) : Option Int64 := b_X4_toCorner_5 FU x0 (0 : Int32)
set_option maxHeartbeats 4000000 in
set_option maxRecDepth 100000 in
theorem gb_X4_toCorner_0 {M : Mm}  {x0 : Int64} {v : Int64} (C : Cx RX4 cX4_toCorner 5 p (rmD 1) s m args meth c E) (hr : meth.sig.returnType = (some .long)) (h : bb_X4_toCorner_0 x0 = some v) : G p l e (rmD 1) s m args below meth c E 5 0 0 (QR below args s E 0 0 (some (.long v)) M) 0 [(0, .long x0)] [] M := by
  unfold bb_X4_toCorner_0 at h
  refine G.lload_n C 0 dX4_toCorner_0 rfl rfl ?_
  refine G.lstore_n (L' := [(2, .long x0), (0, .long x0)]) C dX4_toCorner_1 rfl rfl (by decide) rfl ?_
  refine G.iconst (v := (0 : Int32)) C dX4_toCorner_2 (by decide) ?_
  refine G.istore (L' := [(4, .int (0 : Int32)), (2, .long x0), (0, .long x0)]) C dX4_toCorner_3 rfl (by decide) rfl ?_
  exact G.sub [1, 0] rfl (g_X4_toCorner_5 C hr  h)
def f_X4_toCorner (x0 : Int64) : Option Int64 := bb_X4_toCorner_0 x0
theorem s_X4_toCorner {l : Launch} {E : Ev} {x0 : Int64} {M : Mm} {v : Int64} (h : f_X4_toCorner x0 = some v) : MetA l yX4_toCorner cX4_toCorner 5 (some .long) 1 E [.long x0] M (some (.long v)) M := by
  refine MetA.of (by decide +kernel) (Nat.le_of_ble_eq_true rfl) ?_
  intro p e s m below meth c C hr hnm
  exact G.sub [0] rfl (gb_X4_toCorner_0 C hr  h)
def bb_X4_mirrored_0 (x0 : Int64) : Option Int64 := ltv ((shL (x0 &&& (1085102592571150095 : Int64)) (4 : Int32)) ||| ((ushL x0 (4 : Int32)) &&& (1085102592571150095 : Int64))) fun x2_1 => ltv ((shL (x2_1 &&& (3689348814741910323 : Int64)) (2 : Int32)) ||| ((ushL x2_1 (2 : Int32)) &&& (3689348814741910323 : Int64))) fun x2_2 => some ((shL (x2_2 &&& (6148914691236517205 : Int64)) (1 : Int32)) ||| ((ushL x2_2 (1 : Int32)) &&& (6148914691236517205 : Int64)))
set_option maxHeartbeats 4000000 in
set_option maxRecDepth 100000 in
theorem gb_X4_mirrored_0 {M : Mm}  {x0 : Int64} {v : Int64} (C : Cx RX4 cX4_mirrored 4 p (rmD 1) s m args meth c E) (hr : meth.sig.returnType = (some .long)) (h : bb_X4_mirrored_0 x0 = some v) : G p l e (rmD 1) s m args below meth c E 4 0 0 (QR below args s E 0 0 (some (.long v)) M) 0 [(0, .long x0)] [] M := by
  unfold bb_X4_mirrored_0 at h
  refine G.lload_n C 0 dX4_mirrored_0 rfl rfl ?_
  refine G.ldc2 C tg_429 dX4_mirrored_1 ?_
  refine G.land C dX4_mirrored_4 ?_
  refine G.iconst (v := (4 : Int32)) C dX4_mirrored_5 (by decide) ?_
  refine G.lshl (v := shL (x0 &&& (1085102592571150095 : Int64)) (4 : Int32)) C dX4_mirrored_6 rfl ?_
  refine G.lload_n C 0 dX4_mirrored_7 rfl rfl ?_
  refine G.iconst (v := (4 : Int32)) C dX4_mirrored_8 (by decide) ?_
  refine G.lushr (v := ushL x0 (4 : Int32)) C dX4_mirrored_9 rfl ?_
  refine G.ldc2 C tg_429 dX4_mirrored_10 ?_
  refine G.land C dX4_mirrored_13 ?_
  refine G.lor C dX4_mirrored_14 ?_
  obtain ⟨x2_1, ex2_1, h⟩ := ltv_ex h
  refine G.lstore_n (L' := [(2, .long x2_1), (0, .long x0)]) C dX4_mirrored_15 rfl ex2_1 (by decide) rfl ?_
  refine G.lload_n C 0 dX4_mirrored_16 rfl rfl ?_
  refine G.ldc2 C tg_430 dX4_mirrored_17 ?_
  refine G.land C dX4_mirrored_20 ?_
  refine G.iconst (v := (2 : Int32)) C dX4_mirrored_21 (by decide) ?_
  refine G.lshl (v := shL (x2_1 &&& (3689348814741910323 : Int64)) (2 : Int32)) C dX4_mirrored_22 rfl ?_
  refine G.lload_n C 0 dX4_mirrored_23 rfl rfl ?_
  refine G.iconst (v := (2 : Int32)) C dX4_mirrored_24 (by decide) ?_
  refine G.lushr (v := ushL x2_1 (2 : Int32)) C dX4_mirrored_25 rfl ?_
  refine G.ldc2 C tg_430 dX4_mirrored_26 ?_
  refine G.land C dX4_mirrored_29 ?_
  refine G.lor C dX4_mirrored_30 ?_
  obtain ⟨x2_2, ex2_2, h⟩ := ltv_ex h
  refine G.lstore_n (L' := [(2, .long x2_2), (0, .long x0)]) C dX4_mirrored_31 rfl ex2_2 (by decide) rfl ?_
  refine G.lload_n C 0 dX4_mirrored_32 rfl rfl ?_
  refine G.ldc2 C tg_431 dX4_mirrored_33 ?_
  refine G.land C dX4_mirrored_36 ?_
  refine G.iconst (v := (1 : Int32)) C dX4_mirrored_37 (by decide) ?_
  refine G.lshl (v := shL (x2_2 &&& (6148914691236517205 : Int64)) (1 : Int32)) C dX4_mirrored_38 rfl ?_
  refine G.lload_n C 0 dX4_mirrored_39 rfl rfl ?_
  refine G.iconst (v := (1 : Int32)) C dX4_mirrored_40 (by decide) ?_
  refine G.lushr (v := ushL x2_2 (1 : Int32)) C dX4_mirrored_41 rfl ?_
  refine G.ldc2 C tg_431 dX4_mirrored_42 ?_
  refine G.land C dX4_mirrored_45 ?_
  refine G.lor C dX4_mirrored_46 ?_
  cases h
  exact G.lret C hr dX4_mirrored_47
def f_X4_mirrored (x0 : Int64) : Option Int64 := bb_X4_mirrored_0 x0
theorem s_X4_mirrored {l : Launch} {E : Ev} {x0 : Int64} {M : Mm} {v : Int64} (h : f_X4_mirrored x0 = some v) : MetA l yX4_mirrored cX4_mirrored 4 (some .long) 1 E [.long x0] M (some (.long v)) M := by
  refine MetA.of (by decide +kernel) (Nat.le_of_ble_eq_true rfl) ?_
  intro p e s m below meth c C hr hnm
  exact G.sub [0] rfl (gb_X4_mirrored_0 C hr  h)
def bb_X4_crossed_0 (x0 : Int64) : Option Int64 := ltv ((x0 ^^^ (shL x0 (28 : Int32))) &&& (1085102592318504960 : Int64)) fun x2_1 => ltv ((x0 ^^^ x2_1) ^^^ (ushL x2_1 (28 : Int32))) fun x4_2 => ltv ((x4_2 ^^^ (shL x4_2 (14 : Int32))) &&& (3689292520605548544 : Int64)) fun x2_3 => ltv ((x4_2 ^^^ x2_3) ^^^ (ushL x2_3 (14 : Int32))) fun x4_4 => ltv ((x4_4 ^^^ (shL x4_4 (7 : Int32))) &&& (6124988953138320640 : Int64)) fun x2_5 => some ((x4_4 ^^^ x2_5) ^^^ (ushL x2_5 (7 : Int32)))
set_option maxHeartbeats 4000000 in
set_option maxRecDepth 100000 in
theorem gb_X4_crossed_0 {M : Mm}  {x0 : Int64} {v : Int64} (C : Cx RX4 cX4_crossed 6 p (rmD 1) s m args meth c E) (hr : meth.sig.returnType = (some .long)) (h : bb_X4_crossed_0 x0 = some v) : G p l e (rmD 1) s m args below meth c E 6 0 0 (QR below args s E 0 0 (some (.long v)) M) 0 [(0, .long x0)] [] M := by
  unfold bb_X4_crossed_0 at h
  refine G.lload_n C 0 dX4_crossed_0 rfl rfl ?_
  refine G.lload_n C 0 dX4_crossed_1 rfl rfl ?_
  refine G.bipush (v := (28 : Int32)) C dX4_crossed_2 (by decide) ?_
  refine G.lshl (v := shL x0 (28 : Int32)) C dX4_crossed_4 rfl ?_
  refine G.lxor C dX4_crossed_5 ?_
  refine G.ldc2 C tg_443 dX4_crossed_6 ?_
  refine G.land C dX4_crossed_9 ?_
  obtain ⟨x2_1, ex2_1, h⟩ := ltv_ex h
  refine G.lstore_n (L' := [(2, .long x2_1), (0, .long x0)]) C dX4_crossed_10 rfl ex2_1 (by decide) rfl ?_
  refine G.lload_n C 1 dX4_crossed_11 rfl rfl ?_
  refine G.lload_n C 0 dX4_crossed_12 rfl rfl ?_
  refine G.lxor C dX4_crossed_13 ?_
  refine G.lload_n C 0 dX4_crossed_14 rfl rfl ?_
  refine G.bipush (v := (28 : Int32)) C dX4_crossed_15 (by decide) ?_
  refine G.lushr (v := ushL x2_1 (28 : Int32)) C dX4_crossed_17 rfl ?_
  refine G.lxor C dX4_crossed_18 ?_
  obtain ⟨x4_2, ex4_2, h⟩ := ltv_ex h
  refine G.lstore (L' := [(4, .long x4_2), (2, .long x2_1), (0, .long x0)]) C dX4_crossed_19 ex4_2 (by decide) rfl ?_
  refine G.lload C 0 dX4_crossed_21 rfl ?_
  refine G.lload C 0 dX4_crossed_23 rfl ?_
  refine G.bipush (v := (14 : Int32)) C dX4_crossed_25 (by decide) ?_
  refine G.lshl (v := shL x4_2 (14 : Int32)) C dX4_crossed_27 rfl ?_
  refine G.lxor C dX4_crossed_28 ?_
  refine G.ldc2 C tg_444 dX4_crossed_29 ?_
  refine G.land C dX4_crossed_32 ?_
  obtain ⟨x2_3, ex2_3, h⟩ := ltv_ex h
  refine G.lstore_n (L' := [(2, .long x2_3), (4, .long x4_2), (0, .long x0)]) C dX4_crossed_33 rfl ex2_3 (by decide) rfl ?_
  refine G.lload C 1 dX4_crossed_34 rfl ?_
  refine G.lload_n C 0 dX4_crossed_36 rfl rfl ?_
  refine G.lxor C dX4_crossed_37 ?_
  refine G.lload_n C 0 dX4_crossed_38 rfl rfl ?_
  refine G.bipush (v := (14 : Int32)) C dX4_crossed_39 (by decide) ?_
  refine G.lushr (v := ushL x2_3 (14 : Int32)) C dX4_crossed_41 rfl ?_
  refine G.lxor C dX4_crossed_42 ?_
  obtain ⟨x4_4, ex4_4, h⟩ := ltv_ex h
  refine G.lstore (L' := [(4, .long x4_4), (2, .long x2_3), (0, .long x0)]) C dX4_crossed_43 ex4_4 (by decide) rfl ?_
  refine G.lload C 0 dX4_crossed_45 rfl ?_
  refine G.lload C 0 dX4_crossed_47 rfl ?_
  refine G.bipush (v := (7 : Int32)) C dX4_crossed_49 (by decide) ?_
  refine G.lshl (v := shL x4_4 (7 : Int32)) C dX4_crossed_51 rfl ?_
  refine G.lxor C dX4_crossed_52 ?_
  refine G.ldc2 C tg_445 dX4_crossed_53 ?_
  refine G.land C dX4_crossed_56 ?_
  obtain ⟨x2_5, ex2_5, h⟩ := ltv_ex h
  refine G.lstore_n (L' := [(2, .long x2_5), (4, .long x4_4), (0, .long x0)]) C dX4_crossed_57 rfl ex2_5 (by decide) rfl ?_
  refine G.lload C 1 dX4_crossed_58 rfl ?_
  refine G.lload_n C 0 dX4_crossed_60 rfl rfl ?_
  refine G.lxor C dX4_crossed_61 ?_
  refine G.lload_n C 0 dX4_crossed_62 rfl rfl ?_
  refine G.bipush (v := (7 : Int32)) C dX4_crossed_63 (by decide) ?_
  refine G.lushr (v := ushL x2_5 (7 : Int32)) C dX4_crossed_65 rfl ?_
  refine G.lxor C dX4_crossed_66 ?_
  cases h
  exact G.lret C hr dX4_crossed_67
def f_X4_crossed (x0 : Int64) : Option Int64 := bb_X4_crossed_0 x0
theorem s_X4_crossed {l : Launch} {E : Ev} {x0 : Int64} {M : Mm} {v : Int64} (h : f_X4_crossed x0 = some v) : MetA l yX4_crossed cX4_crossed 6 (some .long) 1 E [.long x0] M (some (.long v)) M := by
  refine MetA.of (by decide +kernel) (Nat.le_of_ble_eq_true rfl) ?_
  intro p e s m below meth c C hr hnm
  exact G.sub [0] rfl (gb_X4_crossed_0 C hr  h)
def bb_X4_quarterTurned_0 (x0 : Int64) : Option Int64 := bd (f_X4_crossed x0) fun v_2 => bd (f_X4_mirrored v_2) fun v_4 => some v_4
set_option maxHeartbeats 4000000 in
set_option maxRecDepth 100000 in
theorem gb_X4_quarterTurned_0 {M : Mm}  {x0 : Int64} {v : Int64} (C : Cx RX4 cX4_quarterTurned 2 p (rmD 2) s m args meth c E) (hr : meth.sig.returnType = (some .long)) (h : bb_X4_quarterTurned_0 x0 = some v) : G p l e (rmD 2) s m args below meth c E 2 0 0 (QR below args s E 0 0 (some (.long v)) M) 0 [(0, .long x0)] [] M := by
  unfold bb_X4_quarterTurned_0 at h
  refine G.lload_n C 0 dX4_quarterTurned_0 rfl rfl ?_
  obtain ⟨v_2, hv_1, h⟩ := bd_ex h
  refine G.callS (rest := []) C (s_X4_crossed  hv_1) ⟨tg_442, tg_101, ok_X4_crossed, Nat.le_of_ble_eq_true rfl, Nat.le_of_ble_eq_true rfl⟩ tg_440 tg_441 rfl (Nat.le_of_ble_eq_true rfl) dX4_quarterTurned_1 ⟨Nat.le_refl 0, Nat.le_refl 0⟩ ?_
  obtain ⟨v_4, hv_3, h⟩ := bd_ex h
  refine G.callS (rest := []) C (s_X4_mirrored  hv_3) ⟨tg_428, tg_101, ok_X4_mirrored, Nat.le_of_ble_eq_true rfl, Nat.le_of_ble_eq_true rfl⟩ tg_426 tg_427 rfl (Nat.le_of_ble_eq_true rfl) dX4_quarterTurned_4 ⟨Nat.le_refl 0, Nat.le_refl 0⟩ ?_
  cases h
  exact G.lret C hr dX4_quarterTurned_7
def f_X4_quarterTurned (x0 : Int64) : Option Int64 := bb_X4_quarterTurned_0 x0
theorem s_X4_quarterTurned {l : Launch} {E : Ev} {x0 : Int64} {M : Mm} {v : Int64} (h : f_X4_quarterTurned x0 = some v) : MetA l yX4_quarterTurned cX4_quarterTurned 2 (some .long) 2 E [.long x0] M (some (.long v)) M := by
  refine MetA.of (by decide +kernel) (Nat.le_of_ble_eq_true rfl) ?_
  intro p e s m below meth c C hr hnm
  exact G.sub [0] rfl (gb_X4_quarterTurned_0 C hr  h)
def bb_X4_halfTurned_0 (x0 : Int64) : Option Int64 := bd (f_X4_quarterTurned x0) fun v_2 => bd (f_X4_quarterTurned v_2) fun v_4 => some v_4
set_option maxHeartbeats 4000000 in
set_option maxRecDepth 100000 in
theorem gb_X4_halfTurned_0 {M : Mm}  {x0 : Int64} {v : Int64} (C : Cx RX4 cX4_halfTurned 2 p (rmD 3) s m args meth c E) (hr : meth.sig.returnType = (some .long)) (h : bb_X4_halfTurned_0 x0 = some v) : G p l e (rmD 3) s m args below meth c E 2 0 0 (QR below args s E 0 0 (some (.long v)) M) 0 [(0, .long x0)] [] M := by
  unfold bb_X4_halfTurned_0 at h
  refine G.lload_n C 0 dX4_halfTurned_0 rfl rfl ?_
  obtain ⟨v_2, hv_1, h⟩ := bd_ex h
  refine G.callS (rest := []) C (s_X4_quarterTurned  hv_1) ⟨tg_439, tg_101, ok_X4_quarterTurned, Nat.le_of_ble_eq_true rfl, Nat.le_of_ble_eq_true rfl⟩ tg_437 tg_438 rfl (Nat.le_of_ble_eq_true rfl) dX4_halfTurned_1 ⟨Nat.le_refl 0, Nat.le_refl 0⟩ ?_
  obtain ⟨v_4, hv_3, h⟩ := bd_ex h
  refine G.callS (rest := []) C (s_X4_quarterTurned  hv_3) ⟨tg_439, tg_101, ok_X4_quarterTurned, Nat.le_of_ble_eq_true rfl, Nat.le_of_ble_eq_true rfl⟩ tg_437 tg_438 rfl (Nat.le_of_ble_eq_true rfl) dX4_halfTurned_4 ⟨Nat.le_refl 0, Nat.le_refl 0⟩ ?_
  cases h
  exact G.lret C hr dX4_halfTurned_7
def f_X4_halfTurned (x0 : Int64) : Option Int64 := bb_X4_halfTurned_0 x0
theorem s_X4_halfTurned {l : Launch} {E : Ev} {x0 : Int64} {M : Mm} {v : Int64} (h : f_X4_halfTurned x0 = some v) : MetA l yX4_halfTurned cX4_halfTurned 2 (some .long) 3 E [.long x0] M (some (.long v)) M := by
  refine MetA.of (by decide +kernel) (Nat.le_of_ble_eq_true rfl) ?_
  intro p e s m below meth c C hr hnm
  exact G.sub [0] rfl (gb_X4_halfTurned_0 C hr  h)
end
