section
variable {p : Program} {l : Launch} {e : Env} {s : State} {m : MethodId} {args : Array Value} {below : List Frame} {meth : Method} {c : Code} {E : Ev}
def bb_X10_thrown_67_0  (M : Mm) : Option Int32 := some (M.1 67 0)
set_option maxHeartbeats 4000000 in
set_option maxRecDepth 100000 in
theorem gb_X10_thrown_67_0   {M : Mm} {v : Int32} (hE : Has shM (eH E)) (C : Cx RX10 cX10_thrown 1 p (rmD 1) s m args meth c E) (hr : meth.sig.returnType = (some .int)) (h : bb_X10_thrown_67_0 M = some v) : G p l e (rmD 1) s m args below meth c E 1 0 0 (QR below args s E 0 0 (some (.int v)) M) 0 [(0, .ref (eA E 67))] [] M := by
  unfold bb_X10_thrown_67_0 at h
  refine G.aload_n C 0 dX10_thrown_0 rfl rfl ?_
  refine G.getI (k := 0) C k_X10 (sm_67 hE) rfl (by decide) tg_1431 dX10_thrown_1 ?_
  cases h
  exact G.iret C hr dX10_thrown_4
def f_X10_thrown_67  (M : Mm) : Option Int32 := bb_X10_thrown_67_0 M
theorem s_X10_thrown_67 {l : Launch} {E : Ev}  {M : Mm} {v : Int32} (hE : Has shM (eH E)) (h : f_X10_thrown_67 M = some v) : MetA l yX10_thrown cX10_thrown 1 (some .int) 1 E [.ref (eA E 67)] M (some (.int v)) M := by
  refine MetA.of (by decide +kernel) (Nat.le_of_ble_eq_true rfl) ?_
  intro p e s m below meth c C hr hnm
  exact G.sub [0] rfl (gb_X10_thrown_67_0 hE C hr  h)
def bb_X10_feed_67_76 (k_23 : Int32 → Int32 → Int32 → Int32 → Int32 → Int32 → Mm → Option (Int32 × Mm)) (x1 : Int32) (x2 : Int32) (x3 : Int32) (x4 : Int32) (x5 : Int32) (x6 : Int32) (s0 : Int32) (M : Mm) : Option (Int32 × Mm) := gd (inb (M.1 67 1) 500) (ltv (wI M 68 (ix (M.1 67 1)) ((shrI s0 ((24 : Int32) - ((8 : Int32) * (rmI x6 (4 : Int32))))) &&& (255 : Int32))) fun M_3 => ltv (wI M_3 67 1 ((M_3.1 67 1) + (1 : Int32))) fun M_4 => ltv (x6 + (1 : Int32)) fun x6_5 => k_23 x1 x2 x3 x4 x5 x6_5 M_4)
set_option maxHeartbeats 4000000 in
set_option maxRecDepth 100000 in
theorem gb_X10_feed_67_76  {k_23 : Int32 → Int32 → Int32 → Int32 → Int32 → Int32 → Mm → Option (Int32 × Mm)} {x1 : Int32} {x2 : Int32} {x3 : Int32} {x4 : Int32} {x5 : Int32} {x6 : Int32} {s0 : Int32} {M : Mm} {v : Int32} {M' : Mm} (hE : Has shM (eH E)) (C : Cx RX10 cX10_feed 8 p (rmD 1) s m args meth c E) (hr : meth.sig.returnType = (some .int)) (hk_23 : ∀ (x1 : Int32) (x2 : Int32) (x3 : Int32) (x4 : Int32) (x5 : Int32) (x6 : Int32) (M : Mm), k_23 x1 x2 x3 x4 x5 x6 M = some (v, M') → G p l e (rmD 1) s m args below meth c E 8 0 0 (QR below args s E 0 0 (some (.int v)) M') 23 [(0, .ref (eA E 67)), (1, .int x1), (2, .int x2), (3, .int x3), (4, .int x4), (5, .int x5), (6, .int x6)] [] M) (h : bb_X10_feed_67_76 k_23 x1 x2 x3 x4 x5 x6 s0 M = some (v, M')) : G p l e (rmD 1) s m args below meth c E 8 0 0 (QR below args s E 0 0 (some (.int v)) M') 76 [(0, .ref (eA E 67)), (1, .int x1), (2, .int x2), (3, .int x3), (4, .int x4), (5, .int x5), (6, .int x6)] [.int s0] M := by
  unfold bb_X10_feed_67_76 at h
  refine G.istore (L' := [(7, .int s0), (0, .ref (eA E 67)), (1, .int x1), (2, .int x2), (3, .int x3), (4, .int x4), (5, .int x5), (6, .int x6)]) C dX10_feed_76 rfl (by decide) rfl ?_
  refine G.aload_n C 1 dX10_feed_78 rfl rfl ?_
  refine G.getR (k := 8) C k_X10 (sm_67 hE) rfl (by decide) tg_1439 dX10_feed_79 ?_
  refine G.aload_n C 1 dX10_feed_82 rfl rfl ?_
  refine G.getI (k := 1) C k_X10 (sm_67 hE) rfl (by decide) tg_1432 dX10_feed_83 ?_
  refine G.iload C 0 dX10_feed_86 rfl ?_
  refine G.bipush (v := (24 : Int32)) C dX10_feed_88 (by decide) ?_
  refine G.bipush (v := (8 : Int32)) C dX10_feed_90 (by decide) ?_
  refine G.iload C 7 dX10_feed_92 rfl ?_
  refine G.iconst (v := (4 : Int32)) C dX10_feed_94 (by decide) ?_
  refine G.irm C dX10_feed_95 (by decide) ?_
  refine G.imul C dX10_feed_96 ?_
  refine G.isub C dX10_feed_97 ?_
  refine G.isr C dX10_feed_98 ?_
  refine G.sipush (v := (255 : Int32)) C dX10_feed_99 (by decide) ?_
  refine G.iand C dX10_feed_102 ?_
  obtain ⟨hg_2, h⟩ := gd_ex h
  obtain ⟨M_3, eM_3, h⟩ := ltv_ex h
  refine G.sI (j := (ix (M.1 67 1))) C (sm_68 hE) hg_2 rfl dX10_feed_103 eM_3 ?_
  refine G.aload_n C 1 dX10_feed_104 rfl rfl ?_
  refine G.dup C dX10_feed_105 rfl ?_
  refine G.getI (k := 1) C k_X10 (sm_67 hE) rfl (by decide) tg_1432 dX10_feed_106 ?_
  refine G.iconst (v := (1 : Int32)) C dX10_feed_109 (by decide) ?_
  refine G.iadd C dX10_feed_110 ?_
  obtain ⟨M_4, eM_4, h⟩ := ltv_ex h
  refine G.putI (k := 1) C k_X10 (sm_67 hE) rfl (by decide) tg_1432 rfl rfl dX10_feed_111 eM_4 ?_
  obtain ⟨x6_5, ex6_5, h⟩ := ltv_ex h
  refine G.iinc (L' := [(6, .int x6_5), (7, .int s0), (0, .ref (eA E 67)), (1, .int x1), (2, .int x2), (3, .int x3), (4, .int x4), (5, .int x5)]) C 7 dX10_feed_114 rfl (ex6_5.trans rfl) (by decide) rfl ?_
  refine G.goto (tgt := 23) C dX10_feed_117 (by decide) ?_
  exact G.sub [2, 3, 4, 5, 6, 7, 0] rfl (hk_23 _ _ _ _ _ _ _  h)
def bb_X10_feed_67_23 (k_23 : Int32 → Int32 → Int32 → Int32 → Int32 → Int32 → Mm → Option (Int32 × Mm)) (x1 : Int32) (x2 : Int32) (x3 : Int32) (x4 : Int32) (x5 : Int32) (x6 : Int32) (M : Mm) : Option (Int32 × Mm) := if (20 : Int32) ≤ x6 then (some (M.1 67 1, M)) else (if (4 : Int32) ≤ x6 then (if (8 : Int32) ≤ x6 then (if (12 : Int32) ≤ x6 then (if (16 : Int32) ≤ x6 then (bb_X10_feed_67_76 k_23 x1 x2 x3 x4 x5 x6 x5 M) else (bb_X10_feed_67_76 k_23 x1 x2 x3 x4 x5 x6 x4 M)) else (bb_X10_feed_67_76 k_23 x1 x2 x3 x4 x5 x6 x3 M)) else (bb_X10_feed_67_76 k_23 x1 x2 x3 x4 x5 x6 x2 M)) else (bb_X10_feed_67_76 k_23 x1 x2 x3 x4 x5 x6 x1 M))
set_option maxHeartbeats 4000000 in
set_option maxRecDepth 100000 in
theorem gb_X10_feed_67_23  {k_23 : Int32 → Int32 → Int32 → Int32 → Int32 → Int32 → Mm → Option (Int32 × Mm)} {x1 : Int32} {x2 : Int32} {x3 : Int32} {x4 : Int32} {x5 : Int32} {x6 : Int32} {M : Mm} {v : Int32} {M' : Mm} (hE : Has shM (eH E)) (C : Cx RX10 cX10_feed 8 p (rmD 1) s m args meth c E) (hr : meth.sig.returnType = (some .int)) (hk_23 : ∀ (x1 : Int32) (x2 : Int32) (x3 : Int32) (x4 : Int32) (x5 : Int32) (x6 : Int32) (M : Mm), k_23 x1 x2 x3 x4 x5 x6 M = some (v, M') → G p l e (rmD 1) s m args below meth c E 8 0 0 (QR below args s E 0 0 (some (.int v)) M') 23 [(0, .ref (eA E 67)), (1, .int x1), (2, .int x2), (3, .int x3), (4, .int x4), (5, .int x5), (6, .int x6)] [] M) (h : bb_X10_feed_67_23 k_23 x1 x2 x3 x4 x5 x6 M = some (v, M')) : G p l e (rmD 1) s m args below meth c E 8 0 0 (QR below args s E 0 0 (some (.int v)) M') 23 [(0, .ref (eA E 67)), (1, .int x1), (2, .int x2), (3, .int x3), (4, .int x4), (5, .int x5), (6, .int x6)] [] M := by
  unfold bb_X10_feed_67_23 at h
  refine G.iload C 6 dX10_feed_23 rfl ?_
  refine G.bipush (v := (20 : Int32)) C dX10_feed_25 (by decide) ?_
  refine G.icmp_ge (tgt := 120) C dX10_feed_27 (by decide) (fun hc => ?_) (fun hc => ?_)
  · have h := it_t h hc
    refine G.aload_n C 0 dX10_feed_120 rfl rfl ?_
    refine G.getI (k := 1) C k_X10 (sm_67 hE) rfl (by decide) tg_1432 dX10_feed_121 ?_
    cases h
    exact G.iret C hr dX10_feed_124
  · have h := it_f h hc
    refine G.iload C 6 dX10_feed_30 rfl ?_
    refine G.iconst (v := (4 : Int32)) C dX10_feed_32 (by decide) ?_
    refine G.icmp_ge (tgt := 40) C dX10_feed_33 (by decide) (fun hc => ?_) (fun hc => ?_)
    · have h := it_t h hc
      refine G.iload C 6 dX10_feed_40 rfl ?_
      refine G.bipush (v := (8 : Int32)) C dX10_feed_42 (by decide) ?_
      refine G.icmp_ge (tgt := 51) C dX10_feed_44 (by decide) (fun hc => ?_) (fun hc => ?_)
      · have h := it_t h hc
        refine G.iload C 6 dX10_feed_51 rfl ?_
        refine G.bipush (v := (12 : Int32)) C dX10_feed_53 (by decide) ?_
        refine G.icmp_ge (tgt := 62) C dX10_feed_55 (by decide) (fun hc => ?_) (fun hc => ?_)
        · have h := it_t h hc
          refine G.iload C 6 dX10_feed_62 rfl ?_
          refine G.bipush (v := (16 : Int32)) C dX10_feed_64 (by decide) ?_
          refine G.icmp_ge (tgt := 74) C dX10_feed_66 (by decide) (fun hc => ?_) (fun hc => ?_)
          · have h := it_t h hc
            refine G.iload C 5 dX10_feed_74 rfl ?_
            exact G.sub [0, 1, 2, 3, 4, 5, 6] rfl (gb_X10_feed_67_76 hE C hr hk_23  h)
          · have h := it_f h hc
            refine G.iload C 4 dX10_feed_69 rfl ?_
            refine G.goto (tgt := 76) C dX10_feed_71 (by decide) ?_
            exact G.sub [0, 1, 2, 3, 4, 5, 6] rfl (gb_X10_feed_67_76 hE C hr hk_23  h)
        · have h := it_f h hc
          refine G.iload_n C 3 dX10_feed_58 rfl rfl ?_
          refine G.goto (tgt := 76) C dX10_feed_59 (by decide) ?_
          exact G.sub [0, 1, 2, 3, 4, 5, 6] rfl (gb_X10_feed_67_76 hE C hr hk_23  h)
      · have h := it_f h hc
        refine G.iload_n C 2 dX10_feed_47 rfl rfl ?_
        refine G.goto (tgt := 76) C dX10_feed_48 (by decide) ?_
        exact G.sub [0, 1, 2, 3, 4, 5, 6] rfl (gb_X10_feed_67_76 hE C hr hk_23  h)
    · have h := it_f h hc
      refine G.iload_n C 1 dX10_feed_36 rfl rfl ?_
      refine G.goto (tgt := 76) C dX10_feed_37 (by decide) ?_
      exact G.sub [0, 1, 2, 3, 4, 5, 6] rfl (gb_X10_feed_67_76 hE C hr hk_23  h)
def b_X10_feed_67_23 : Nat → Int32 → Int32 → Int32 → Int32 → Int32 → Int32 → Mm → Option (Int32 × Mm)
  | 0, _, _, _, _, _, _, _ => none
  | n + 1, x1, x2, x3, x4, x5, x6, M => bb_X10_feed_67_23 (b_X10_feed_67_23 n) x1 x2 x3 x4 x5 x6 M
set_option maxHeartbeats 4000000 in
theorem g_X10_feed_67_23  {n : Nat} {x1 : Int32} {x2 : Int32} {x3 : Int32} {x4 : Int32} {x5 : Int32} {x6 : Int32} {M : Mm} {v : Int32} {M' : Mm} (hE : Has shM (eH E)) (C : Cx RX10 cX10_feed 8 p (rmD 1) s m args meth c E) (hr : meth.sig.returnType = (some .int)) (h : b_X10_feed_67_23 n x1 x2 x3 x4 x5 x6 M = some (v, M')) : G p l e (rmD 1) s m args below meth c E 8 0 0 (QR below args s E 0 0 (some (.int v)) M') 23 [(0, .ref (eA E 67)), (1, .int x1), (2, .int x2), (3, .int x3), (4, .int x4), (5, .int x5), (6, .int x6)] [] M := by
  induction n generalizing x1 x2 x3 x4 x5 x6 M with
  | zero => cases h
  | succ n ih => exact gb_X10_feed_67_23 hE C hr (fun _ _ _ _ _ _ _ => ih)  h
def bb_X10_feed_67_0 (x1 : Int32) (x2 : Int32) (x3 : Int32) (x4 : Int32) (x5 : Int32) (M : Mm) : Option (Int32 × Mm) := ltv (wI M 67 0 (0 : Int32)) fun M_1 => if ((M_1.1 67 1) + (20 : Int32)) ≤ (500 : Int32) then (b_X10_feed_67_23 FU x1 x2 x3 x4 x5 (0 : Int32) M_1) else (some ((-1 : Int32), M_1))
set_option maxHeartbeats 4000000 in
set_option maxRecDepth 100000 in
theorem gb_X10_feed_67_0  {x1 : Int32} {x2 : Int32} {x3 : Int32} {x4 : Int32} {x5 : Int32} {M : Mm} {v : Int32} {M' : Mm} (hE : Has shM (eH E)) (C : Cx RX10 cX10_feed 8 p (rmD 1) s m args meth c E) (hr : meth.sig.returnType = (some .int)) (h : bb_X10_feed_67_0 x1 x2 x3 x4 x5 M = some (v, M')) : G p l e (rmD 1) s m args below meth c E 8 0 0 (QR below args s E 0 0 (some (.int v)) M') 0 [(0, .ref (eA E 67)), (1, .int x1), (2, .int x2), (3, .int x3), (4, .int x4), (5, .int x5)] [] M := by
  unfold bb_X10_feed_67_0 at h
  refine G.aload_n C 0 dX10_feed_0 rfl rfl ?_
  refine G.iconst (v := (0 : Int32)) C dX10_feed_1 (by decide) ?_
  obtain ⟨M_1, eM_1, h⟩ := ltv_ex h
  refine G.putI (k := 0) C k_X10 (sm_67 hE) rfl (by decide) tg_1431 rfl rfl dX10_feed_2 eM_1 ?_
  refine G.aload_n C 0 dX10_feed_5 rfl rfl ?_
  refine G.getI (k := 1) C k_X10 (sm_67 hE) rfl (by decide) tg_1432 dX10_feed_6 ?_
  refine G.bipush (v := (20 : Int32)) C dX10_feed_9 (by decide) ?_
  refine G.iadd C dX10_feed_11 ?_
  refine G.sipush (v := (500 : Int32)) C dX10_feed_12 (by decide) ?_
  refine G.icmp_le (tgt := 20) C dX10_feed_15 (by decide) (fun hc => ?_) (fun hc => ?_)
  · have h := it_t h hc
    refine G.iconst (v := (0 : Int32)) C dX10_feed_20 (by decide) ?_
    refine G.istore (L' := [(6, .int (0 : Int32)), (0, .ref (eA E 67)), (1, .int x1), (2, .int x2), (3, .int x3), (4, .int x4), (5, .int x5)]) C dX10_feed_21 rfl (by decide) rfl ?_
    exact G.sub [1, 2, 3, 4, 5, 6, 0] rfl (g_X10_feed_67_23 hE C hr  h)
  · have h := it_f h hc
    refine G.iconst (v := (-1 : Int32)) C dX10_feed_18 (by decide) ?_
    cases h
    exact G.iret C hr dX10_feed_19
def f_X10_feed_67 (x1 : Int32) (x2 : Int32) (x3 : Int32) (x4 : Int32) (x5 : Int32) (M : Mm) : Option (Int32 × Mm) := bb_X10_feed_67_0 x1 x2 x3 x4 x5 M
theorem s_X10_feed_67 {l : Launch} {E : Ev} {x1 : Int32} {x2 : Int32} {x3 : Int32} {x4 : Int32} {x5 : Int32} {M : Mm} {v : Int32} {M' : Mm} (hE : Has shM (eH E)) (h : f_X10_feed_67 x1 x2 x3 x4 x5 M = some (v, M')) : MetA l yX10_feed cX10_feed 8 (some .int) 1 E [.ref (eA E 67), .int x1, .int x2, .int x3, .int x4, .int x5] M (some (.int v)) M' := by
  refine MetA.of (by decide +kernel) (Nat.le_of_ble_eq_true rfl) ?_
  intro p e s m below meth c C hr hnm
  exact G.sub [0, 1, 2, 3, 4, 5] rfl (gb_X10_feed_67_0 hE C hr  h)
def bb_X10_in_0 (x0 : Int32) (x1 : Int32) (x2 : Int32) : Option Int32 := if x0 < x1 then (some (0 : Int32)) else (if x2 < x0 then (some (0 : Int32)) else (some (1 : Int32)))
set_option maxHeartbeats 4000000 in
set_option maxRecDepth 100000 in
theorem gb_X10_in_0 {M : Mm}  {x0 : Int32} {x1 : Int32} {x2 : Int32} {v : Int32} (C : Cx RX10 cX10_in 3 p (rmD 1) s m args meth c E) (hr : meth.sig.returnType = (some .boolean)) (h : bb_X10_in_0 x0 x1 x2 = some v) : G p l e (rmD 1) s m args below meth c E 3 0 0 (QR below args s E 0 0 (some (.int v)) M) 0 [(0, .int x0), (1, .int x1), (2, .int x2)] [] M := by
  unfold bb_X10_in_0 at h
  refine G.iload_n C 0 dX10_in_0 rfl rfl ?_
  refine G.iload_n C 1 dX10_in_1 rfl rfl ?_
  refine G.icmp_lt (tgt := 14) C dX10_in_2 (by decide) (fun hc => ?_) (fun hc => ?_)
  · have h := it_t h hc
    refine G.iconst (v := (0 : Int32)) C dX10_in_14 (by decide) ?_
    cases h
    exact G.zret C hr rfl dX10_in_15
  · have h := it_f h hc
    refine G.iload_n C 0 dX10_in_5 rfl rfl ?_
    refine G.iload_n C 2 dX10_in_6 rfl rfl ?_
    refine G.icmp_gt (tgt := 14) C dX10_in_7 (by decide) (fun hc => ?_) (fun hc => ?_)
    · have h := it_t h hc
      refine G.iconst (v := (0 : Int32)) C dX10_in_14 (by decide) ?_
      cases h
      exact G.zret C hr rfl dX10_in_15
    · have h := it_f h hc
      refine G.iconst (v := (1 : Int32)) C dX10_in_10 (by decide) ?_
      refine G.goto (tgt := 15) C dX10_in_11 (by decide) ?_
      cases h
      exact G.zret C hr rfl dX10_in_15
def f_X10_in (x0 : Int32) (x1 : Int32) (x2 : Int32) : Option Int32 := bb_X10_in_0 x0 x1 x2
theorem s_X10_in {l : Launch} {E : Ev} {x0 : Int32} {x1 : Int32} {x2 : Int32} {M : Mm} {v : Int32} (h : f_X10_in x0 x1 x2 = some v) : MetA l yX10_in cX10_in 3 (some .boolean) 1 E [.int x0, .int x1, .int x2] M (some (.int v)) M := by
  refine MetA.of (by decide +kernel) (Nat.le_of_ble_eq_true rfl) ?_
  intro p e s m below meth c C hr hnm
  exact G.sub [0, 1, 2] rfl (gb_X10_in_0 C hr  h)
def bb_X10_bad_67_0 (x1 : Int32) (x2 : Int32) (M : Mm) : Option (Int32 × Mm) := if x1 = 0 then (if (M.1 67 0) = 0 then (some ((0 : Int32), M)) else (some ((1 : Int32), M))) else (if (M.1 67 0) = 0 then (ltv (wI M 67 0 x2) fun M_1 => if (M_1.1 67 0) = 0 then (some ((0 : Int32), M_1)) else (some ((1 : Int32), M_1))) else (if (M.1 67 0) = 0 then (some ((0 : Int32), M)) else (some ((1 : Int32), M))))
set_option maxHeartbeats 4000000 in
set_option maxRecDepth 100000 in
theorem gb_X10_bad_67_0  {x1 : Int32} {x2 : Int32} {M : Mm} {v : Int32} {M' : Mm} (hE : Has shM (eH E)) (C : Cx RX10 cX10_bad 3 p (rmD 1) s m args meth c E) (hr : meth.sig.returnType = (some .boolean)) (h : bb_X10_bad_67_0 x1 x2 M = some (v, M')) : G p l e (rmD 1) s m args below meth c E 3 0 0 (QR below args s E 0 0 (some (.int v)) M') 0 [(0, .ref (eA E 67)), (1, .int x1), (2, .int x2)] [] M := by
  unfold bb_X10_bad_67_0 at h
  refine G.iload_n C 1 dX10_bad_0 rfl rfl ?_
  refine G.if_eq (tgt := 16) C dX10_bad_1 (by decide) (fun hc => ?_) (fun hc => ?_)
  · have h := it_t h hc
    refine G.aload_n C 0 dX10_bad_16 rfl rfl ?_
    refine G.getI (k := 0) C k_X10 (sm_67 hE) rfl (by decide) tg_1431 dX10_bad_17 ?_
    refine G.if_eq (tgt := 27) C dX10_bad_20 (by decide) (fun hc => ?_) (fun hc => ?_)
    · have h := it_t h hc
      refine G.iconst (v := (0 : Int32)) C dX10_bad_27 (by decide) ?_
      cases h
      exact G.zret C hr rfl dX10_bad_28
    · have h := it_f h hc
      refine G.iconst (v := (1 : Int32)) C dX10_bad_23 (by decide) ?_
      refine G.goto (tgt := 28) C dX10_bad_24 (by decide) ?_
      cases h
      exact G.zret C hr rfl dX10_bad_28
  · have h := it_f h hc
    refine G.aload_n C 0 dX10_bad_4 rfl rfl ?_
    refine G.getI (k := 0) C k_X10 (sm_67 hE) rfl (by decide) tg_1431 dX10_bad_5 ?_
    refine G.if_ne (tgt := 16) C dX10_bad_8 (by decide) (fun hc => ?_) (fun hc => ?_)
    · have h := it_f h hc
      refine G.aload_n C 0 dX10_bad_16 rfl rfl ?_
      refine G.getI (k := 0) C k_X10 (sm_67 hE) rfl (by decide) tg_1431 dX10_bad_17 ?_
      refine G.if_eq (tgt := 27) C dX10_bad_20 (by decide) (fun hc => ?_) (fun hc => ?_)
      · have h := it_t h hc
        refine G.iconst (v := (0 : Int32)) C dX10_bad_27 (by decide) ?_
        cases h
        exact G.zret C hr rfl dX10_bad_28
      · have h := it_f h hc
        refine G.iconst (v := (1 : Int32)) C dX10_bad_23 (by decide) ?_
        refine G.goto (tgt := 28) C dX10_bad_24 (by decide) ?_
        cases h
        exact G.zret C hr rfl dX10_bad_28
    · have h := it_t h hc
      refine G.aload_n C 0 dX10_bad_11 rfl rfl ?_
      refine G.iload_n C 2 dX10_bad_12 rfl rfl ?_
      obtain ⟨M_1, eM_1, h⟩ := ltv_ex h
      refine G.putI (k := 0) C k_X10 (sm_67 hE) rfl (by decide) tg_1431 rfl rfl dX10_bad_13 eM_1 ?_
      refine G.aload_n C 0 dX10_bad_16 rfl rfl ?_
      refine G.getI (k := 0) C k_X10 (sm_67 hE) rfl (by decide) tg_1431 dX10_bad_17 ?_
      refine G.if_eq (tgt := 27) C dX10_bad_20 (by decide) (fun hc => ?_) (fun hc => ?_)
      · have h := it_t h hc
        refine G.iconst (v := (0 : Int32)) C dX10_bad_27 (by decide) ?_
        cases h
        exact G.zret C hr rfl dX10_bad_28
      · have h := it_f h hc
        refine G.iconst (v := (1 : Int32)) C dX10_bad_23 (by decide) ?_
        refine G.goto (tgt := 28) C dX10_bad_24 (by decide) ?_
        cases h
        exact G.zret C hr rfl dX10_bad_28
def f_X10_bad_67 (x1 : Int32) (x2 : Int32) (M : Mm) : Option (Int32 × Mm) := bb_X10_bad_67_0 x1 x2 M
theorem s_X10_bad_67 {l : Launch} {E : Ev} {x1 : Int32} {x2 : Int32} {M : Mm} {v : Int32} {M' : Mm} (hE : Has shM (eH E)) (h : f_X10_bad_67 x1 x2 M = some (v, M')) : MetA l yX10_bad cX10_bad 3 (some .boolean) 1 E [.ref (eA E 67), .int x1, .int x2] M (some (.int v)) M' := by
  refine MetA.of (by decide +kernel) (Nat.le_of_ble_eq_true rfl) ?_
  intro p e s m below meth c C hr hnm
  exact G.sub [0, 1, 2] rfl (gb_X10_bad_67_0 hE C hr  h)
def bb_X10_byteAt_67_0 (x1 : Int32) (M : Mm) : Option Int32 := if x1 < (M.1 67 2) then (gd (inb x1 500) (some (M.1 68 (ix x1)))) else (some (-1 : Int32))
set_option maxHeartbeats 4000000 in
set_option maxRecDepth 100000 in
theorem gb_X10_byteAt_67_0  {x1 : Int32} {M : Mm} {v : Int32} (hE : Has shM (eH E)) (C : Cx RX10 cX10_byteAt 2 p (rmD 1) s m args meth c E) (hr : meth.sig.returnType = (some .int)) (h : bb_X10_byteAt_67_0 x1 M = some v) : G p l e (rmD 1) s m args below meth c E 2 0 0 (QR below args s E 0 0 (some (.int v)) M) 0 [(0, .ref (eA E 67)), (1, .int x1)] [] M := by
  unfold bb_X10_byteAt_67_0 at h
  refine G.iload_n C 1 dX10_byteAt_0 rfl rfl ?_
  refine G.aload_n C 0 dX10_byteAt_1 rfl rfl ?_
  refine G.getI (k := 2) C k_X10 (sm_67 hE) rfl (by decide) tg_1433 dX10_byteAt_2 ?_
  refine G.icmp_lt (tgt := 12) C dX10_byteAt_5 (by decide) (fun hc => ?_) (fun hc => ?_)
  · have h := it_t h hc
    refine G.aload_n C 0 dX10_byteAt_12 rfl rfl ?_
    refine G.getR (k := 8) C k_X10 (sm_67 hE) rfl (by decide) tg_1439 dX10_byteAt_13 ?_
    refine G.iload_n C 1 dX10_byteAt_16 rfl rfl ?_
    obtain ⟨hg_1, h⟩ := gd_ex h
    refine G.aI (j := ix x1) C (sm_68 hE) hg_1 rfl dX10_byteAt_17 ?_
    cases h
    exact G.iret C hr dX10_byteAt_18
  · have h := it_f h hc
    refine G.iconst (v := (-1 : Int32)) C dX10_byteAt_8 (by decide) ?_
    refine G.goto (tgt := 18) C dX10_byteAt_9 (by decide) ?_
    cases h
    exact G.iret C hr dX10_byteAt_18
def f_X10_byteAt_67 (x1 : Int32) (M : Mm) : Option Int32 := bb_X10_byteAt_67_0 x1 M
theorem s_X10_byteAt_67 {l : Launch} {E : Ev} {x1 : Int32} {M : Mm} {v : Int32} (hE : Has shM (eH E)) (h : f_X10_byteAt_67 x1 M = some v) : MetA l yX10_byteAt cX10_byteAt 2 (some .int) 1 E [.ref (eA E 67), .int x1] M (some (.int v)) M := by
  refine MetA.of (by decide +kernel) (Nat.le_of_ble_eq_true rfl) ?_
  intro p e s m below meth c C hr hnm
  exact G.sub [0, 1] rfl (gb_X10_byteAt_67_0 hE C hr  h)
def bb_X10_blanks_67_0 (k_0 : Mm → Option Mm)  (M : Mm) : Option Mm := bd (f_X10_byteAt_67 (M.1 67 4) M) fun v_2 => if v_2 = (32 : Int32) then (ltv (wI M 67 4 ((M.1 67 4) + (1 : Int32))) fun M_3 => k_0 M_3) else (some M)
set_option maxHeartbeats 4000000 in
set_option maxRecDepth 100000 in
theorem gb_X10_blanks_67_0  {k_0 : Mm → Option Mm}  {M : Mm} {M' : Mm} (hE : Has shM (eH E)) (C : Cx RX10 cX10_blanks 1 p (rmD 2) s m args meth c E) (hr : meth.sig.returnType = none) (hk_0 : ∀  (M : Mm), k_0 M = some M' → G p l e (rmD 2) s m args below meth c E 1 0 0 (QR below args s E 0 0 none M') 0 [(0, .ref (eA E 67))] [] M) (h : bb_X10_blanks_67_0 k_0 M = some M') : G p l e (rmD 2) s m args below meth c E 1 0 0 (QR below args s E 0 0 none M') 0 [(0, .ref (eA E 67))] [] M := by
  unfold bb_X10_blanks_67_0 at h
  refine G.aload_n C 0 dX10_blanks_0 rfl rfl ?_
  refine G.aload_n C 0 dX10_blanks_1 rfl rfl ?_
  refine G.getI (k := 4) C k_X10 (sm_67 hE) rfl (by decide) tg_1435 dX10_blanks_2 ?_
  obtain ⟨v_2, hv_1, h⟩ := bd_ex h
  refine G.callV (rest := []) C (s_X10_byteAt_67 hE  hv_1) ⟨tg_1608, tg_103, ok_X10_byteAt, Nat.le_of_ble_eq_true rfl, Nat.le_of_ble_eq_true rfl⟩ tg_1605 tg_1607 tg_48 (sm_67 hE) rfl rfl (Nat.le_of_ble_eq_true rfl) dX10_blanks_5 ⟨Nat.le_refl 0, Nat.le_refl 0⟩ ?_
  refine G.bipush (v := (32 : Int32)) C dX10_blanks_8 (by decide) ?_
  refine G.icmp_ne (tgt := 26) C dX10_blanks_10 (by decide) (fun hc => ?_) (fun hc => ?_)
  · have h := it_f h hc
    cases h
    exact G.vret C hr dX10_blanks_26
  · have h := it_t h hc
    refine G.aload_n C 0 dX10_blanks_13 rfl rfl ?_
    refine G.dup C dX10_blanks_14 rfl ?_
    refine G.getI (k := 4) C k_X10 (sm_67 hE) rfl (by decide) tg_1435 dX10_blanks_15 ?_
    refine G.iconst (v := (1 : Int32)) C dX10_blanks_18 (by decide) ?_
    refine G.iadd C dX10_blanks_19 ?_
    obtain ⟨M_3, eM_3, h⟩ := ltv_ex h
    refine G.putI (k := 4) C k_X10 (sm_67 hE) rfl (by decide) tg_1435 rfl rfl dX10_blanks_20 eM_3 ?_
    refine G.goto (tgt := 0) C dX10_blanks_23 (by decide) ?_
    exact G.sub [0] rfl (hk_0 _  h)
def b_X10_blanks_67_0 : Nat → Mm → Option Mm
  | 0, _ => none
  | n + 1, M => bb_X10_blanks_67_0 (b_X10_blanks_67_0 n) M
set_option maxHeartbeats 4000000 in
theorem g_X10_blanks_67_0  {n : Nat}  {M : Mm} {M' : Mm} (hE : Has shM (eH E)) (C : Cx RX10 cX10_blanks 1 p (rmD 2) s m args meth c E) (hr : meth.sig.returnType = none) (h : b_X10_blanks_67_0 n M = some M') : G p l e (rmD 2) s m args below meth c E 1 0 0 (QR below args s E 0 0 none M') 0 [(0, .ref (eA E 67))] [] M := by
  induction n generalizing M with
  | zero => cases h
  | succ n ih => exact gb_X10_blanks_67_0 hE C hr (fun _ => ih)  h
def f_X10_blanks_67  (M : Mm) : Option Mm := b_X10_blanks_67_0 FU M
theorem s_X10_blanks_67 {l : Launch} {E : Ev}  {M : Mm} {M' : Mm} (hE : Has shM (eH E)) (h : f_X10_blanks_67 M = some M') : MetA l yX10_blanks cX10_blanks 1 none 2 E [.ref (eA E 67)] M none M' := by
  refine MetA.of (by decide +kernel) (Nat.le_of_ble_eq_true rfl) ?_
  intro p e s m below meth c C hr hnm
  exact G.sub [0] rfl (g_X10_blanks_67_0 hE C hr  h)
def bb_X10_wordHere_67_8 (k_8 : Int32 → Int32 → Mm → Option (Int32 × Mm)) (x1 : Int32) (x2 : Int32) (M : Mm) : Option (Int32 × Mm) := bd (f_X10_byteAt_67 ((M.1 67 4) + x2) M) fun v_4 => if v_4 < (97 : Int32) then (if x2 ≤ (6 : Int32) then (some (x1, M)) else (some ((-1 : Int32), M))) else (bd (f_X10_byteAt_67 ((M.1 67 4) + x2) M) fun v_6 => if (122 : Int32) < v_6 then (if x2 ≤ (6 : Int32) then (some (x1, M)) else (some ((-1 : Int32), M))) else (if (6 : Int32) ≤ x2 then (ltv (x2 + (1 : Int32)) fun x2_7 => k_8 x1 x2_7 M) else (bd (f_X10_byteAt_67 ((M.1 67 4) + x2) M) fun v_9 => ltv (((((27 : Int32) * x1) + v_9) - (97 : Int32)) + (1 : Int32)) fun x1_10 => ltv (x2 + (1 : Int32)) fun x2_11 => k_8 x1_10 x2_11 M)))
set_option maxHeartbeats 4000000 in
set_option maxRecDepth 100000 in
theorem gb_X10_wordHere_67_8  {k_8 : Int32 → Int32 → Mm → Option (Int32 × Mm)} {x1 : Int32} {x2 : Int32} {M : Mm} {v : Int32} {M' : Mm} (hE : Has shM (eH E)) (C : Cx RX10 cX10_wordHere 3 p (rmD 3) s m args meth c E) (hr : meth.sig.returnType = (some .int)) (hk_8 : ∀ (x1 : Int32) (x2 : Int32) (M : Mm), k_8 x1 x2 M = some (v, M') → G p l e (rmD 3) s m args below meth c E 3 0 0 (QR below args s E 0 0 (some (.int v)) M') 8 [(0, .ref (eA E 67)), (1, .int x1), (2, .int x2)] [] M) (h : bb_X10_wordHere_67_8 k_8 x1 x2 M = some (v, M')) : G p l e (rmD 3) s m args below meth c E 3 0 0 (QR below args s E 0 0 (some (.int v)) M') 8 [(0, .ref (eA E 67)), (1, .int x1), (2, .int x2)] [] M := by
  unfold bb_X10_wordHere_67_8 at h
  refine G.aload_n C 0 dX10_wordHere_8 rfl rfl ?_
  refine G.aload_n C 0 dX10_wordHere_9 rfl rfl ?_
  refine G.getI (k := 4) C k_X10 (sm_67 hE) rfl (by decide) tg_1435 dX10_wordHere_10 ?_
  refine G.iload_n C 2 dX10_wordHere_13 rfl rfl ?_
  refine G.iadd C dX10_wordHere_14 ?_
  obtain ⟨v_4, hv_3, h⟩ := bd_ex h
  refine G.callV (rest := []) C (s_X10_byteAt_67 hE  hv_3) ⟨tg_1608, tg_103, ok_X10_byteAt, Nat.le_of_ble_eq_true rfl, Nat.le_of_ble_eq_true rfl⟩ tg_1605 tg_1607 tg_48 (sm_67 hE) rfl rfl (Nat.le_of_ble_eq_true rfl) dX10_wordHere_15 ⟨Nat.le_refl 0, Nat.le_refl 0⟩ ?_
  refine G.bipush (v := (97 : Int32)) C dX10_wordHere_18 (by decide) ?_
  refine G.icmp_lt (tgt := 75) C dX10_wordHere_20 (by decide) (fun hc => ?_) (fun hc => ?_)
  · have h := it_t h hc
    refine G.iload_n C 2 dX10_wordHere_75 rfl rfl ?_
    refine G.bipush (v := (6 : Int32)) C dX10_wordHere_76 (by decide) ?_
    refine G.icmp_le (tgt := 85) C dX10_wordHere_78 (by decide) (fun hc => ?_) (fun hc => ?_)
    · have h := it_t h hc
      refine G.iload_n C 1 dX10_wordHere_85 rfl rfl ?_
      cases h
      exact G.iret C hr dX10_wordHere_86
    · have h := it_f h hc
      refine G.iconst (v := (-1 : Int32)) C dX10_wordHere_81 (by decide) ?_
      refine G.goto (tgt := 86) C dX10_wordHere_82 (by decide) ?_
      cases h
      exact G.iret C hr dX10_wordHere_86
  · have h := it_f h hc
    refine G.aload_n C 0 dX10_wordHere_23 rfl rfl ?_
    refine G.aload_n C 0 dX10_wordHere_24 rfl rfl ?_
    refine G.getI (k := 4) C k_X10 (sm_67 hE) rfl (by decide) tg_1435 dX10_wordHere_25 ?_
    refine G.iload_n C 2 dX10_wordHere_28 rfl rfl ?_
    refine G.iadd C dX10_wordHere_29 ?_
    obtain ⟨v_6, hv_5, h⟩ := bd_ex h
    refine G.callV (rest := []) C (s_X10_byteAt_67 hE  hv_5) ⟨tg_1608, tg_103, ok_X10_byteAt, Nat.le_of_ble_eq_true rfl, Nat.le_of_ble_eq_true rfl⟩ tg_1605 tg_1607 tg_48 (sm_67 hE) rfl rfl (Nat.le_of_ble_eq_true rfl) dX10_wordHere_30 ⟨Nat.le_refl 0, Nat.le_refl 0⟩ ?_
    refine G.bipush (v := (122 : Int32)) C dX10_wordHere_33 (by decide) ?_
    refine G.icmp_gt (tgt := 75) C dX10_wordHere_35 (by decide) (fun hc => ?_) (fun hc => ?_)
    · have h := it_t h hc
      refine G.iload_n C 2 dX10_wordHere_75 rfl rfl ?_
      refine G.bipush (v := (6 : Int32)) C dX10_wordHere_76 (by decide) ?_
      refine G.icmp_le (tgt := 85) C dX10_wordHere_78 (by decide) (fun hc => ?_) (fun hc => ?_)
      · have h := it_t h hc
        refine G.iload_n C 1 dX10_wordHere_85 rfl rfl ?_
        cases h
        exact G.iret C hr dX10_wordHere_86
      · have h := it_f h hc
        refine G.iconst (v := (-1 : Int32)) C dX10_wordHere_81 (by decide) ?_
        refine G.goto (tgt := 86) C dX10_wordHere_82 (by decide) ?_
        cases h
        exact G.iret C hr dX10_wordHere_86
    · have h := it_f h hc
      refine G.iload_n C 2 dX10_wordHere_38 rfl rfl ?_
      refine G.bipush (v := (6 : Int32)) C dX10_wordHere_39 (by decide) ?_
      refine G.icmp_ge (tgt := 67) C dX10_wordHere_41 (by decide) (fun hc => ?_) (fun hc => ?_)
      · have h := it_t h hc
        refine G.iload_n C 1 dX10_wordHere_67 rfl rfl ?_
        refine G.istore_n (L' := [(1, .int x1), (0, .ref (eA E 67)), (2, .int x2)]) C dX10_wordHere_68 rfl rfl (by decide) rfl ?_
        obtain ⟨x2_7, ex2_7, h⟩ := ltv_ex h
        refine G.iinc (L' := [(2, .int x2_7), (1, .int x1), (0, .ref (eA E 67))]) C 2 dX10_wordHere_69 rfl (ex2_7.trans rfl) (by decide) rfl ?_
        refine G.goto (tgt := 8) C dX10_wordHere_72 (by decide) ?_
        exact G.sub [2, 1, 0] rfl (hk_8 _ _ _  h)
      · have h := it_f h hc
        refine G.bipush (v := (27 : Int32)) C dX10_wordHere_44 (by decide) ?_
        refine G.iload_n C 1 dX10_wordHere_46 rfl rfl ?_
        refine G.imul C dX10_wordHere_47 ?_
        refine G.aload_n C 0 dX10_wordHere_48 rfl rfl ?_
        refine G.aload_n C 0 dX10_wordHere_49 rfl rfl ?_
        refine G.getI (k := 4) C k_X10 (sm_67 hE) rfl (by decide) tg_1435 dX10_wordHere_50 ?_
        refine G.iload_n C 2 dX10_wordHere_53 rfl rfl ?_
        refine G.iadd C dX10_wordHere_54 ?_
        obtain ⟨v_9, hv_8, h⟩ := bd_ex h
        refine G.callV (rest := [.int ((27 : Int32) * x1)]) C (s_X10_byteAt_67 hE  hv_8) ⟨tg_1608, tg_103, ok_X10_byteAt, Nat.le_of_ble_eq_true rfl, Nat.le_of_ble_eq_true rfl⟩ tg_1605 tg_1607 tg_48 (sm_67 hE) rfl rfl (Nat.le_of_ble_eq_true rfl) dX10_wordHere_55 ⟨Nat.le_refl 0, Nat.le_refl 0⟩ ?_
        refine G.iadd C dX10_wordHere_58 ?_
        refine G.bipush (v := (97 : Int32)) C dX10_wordHere_59 (by decide) ?_
        refine G.isub C dX10_wordHere_61 ?_
        refine G.iconst (v := (1 : Int32)) C dX10_wordHere_62 (by decide) ?_
        refine G.iadd C dX10_wordHere_63 ?_
        refine G.goto (tgt := 68) C dX10_wordHere_64 (by decide) ?_
        obtain ⟨x1_10, ex1_10, h⟩ := ltv_ex h
        refine G.istore_n (L' := [(1, .int x1_10), (0, .ref (eA E 67)), (2, .int x2)]) C dX10_wordHere_68 rfl ex1_10 (by decide) rfl ?_
        obtain ⟨x2_11, ex2_11, h⟩ := ltv_ex h
        refine G.iinc (L' := [(2, .int x2_11), (1, .int x1_10), (0, .ref (eA E 67))]) C 2 dX10_wordHere_69 rfl (ex2_11.trans rfl) (by decide) rfl ?_
        refine G.goto (tgt := 8) C dX10_wordHere_72 (by decide) ?_
        exact G.sub [2, 1, 0] rfl (hk_8 _ _ _  h)
def b_X10_wordHere_67_8 : Nat → Int32 → Int32 → Mm → Option (Int32 × Mm)
  | 0, _, _, _ => none
  | n + 1, x1, x2, M => bb_X10_wordHere_67_8 (b_X10_wordHere_67_8 n) x1 x2 M
set_option maxHeartbeats 4000000 in
theorem g_X10_wordHere_67_8  {n : Nat} {x1 : Int32} {x2 : Int32} {M : Mm} {v : Int32} {M' : Mm} (hE : Has shM (eH E)) (C : Cx RX10 cX10_wordHere 3 p (rmD 3) s m args meth c E) (hr : meth.sig.returnType = (some .int)) (h : b_X10_wordHere_67_8 n x1 x2 M = some (v, M')) : G p l e (rmD 3) s m args below meth c E 3 0 0 (QR below args s E 0 0 (some (.int v)) M') 8 [(0, .ref (eA E 67)), (1, .int x1), (2, .int x2)] [] M := by
  induction n generalizing x1 x2 M with
  | zero => cases h
  | succ n ih => exact gb_X10_wordHere_67_8 hE C hr (fun _ _ _ => ih)  h
def bb_X10_wordHere_67_0  (M : Mm) : Option (Int32 × Mm) := bd (f_X10_blanks_67 M) fun M_2 => b_X10_wordHere_67_8 FU (0 : Int32) (0 : Int32) M_2
set_option maxHeartbeats 4000000 in
set_option maxRecDepth 100000 in
theorem gb_X10_wordHere_67_0   {M : Mm} {v : Int32} {M' : Mm} (hE : Has shM (eH E)) (C : Cx RX10 cX10_wordHere 3 p (rmD 3) s m args meth c E) (hr : meth.sig.returnType = (some .int)) (h : bb_X10_wordHere_67_0 M = some (v, M')) : G p l e (rmD 3) s m args below meth c E 3 0 0 (QR below args s E 0 0 (some (.int v)) M') 0 [(0, .ref (eA E 67))] [] M := by
  unfold bb_X10_wordHere_67_0 at h
  refine G.aload_n C 0 dX10_wordHere_0 rfl rfl ?_
  obtain ⟨M_2, hv_1, h⟩ := bd_ex h
  refine G.callV (rest := []) C (s_X10_blanks_67 hE  hv_1) ⟨tg_1604, tg_103, ok_X10_blanks, Nat.le_of_ble_eq_true rfl, Nat.le_of_ble_eq_true rfl⟩ tg_1601 tg_1603 tg_47 (sm_67 hE) rfl rfl (Nat.le_of_ble_eq_true rfl) dX10_wordHere_1 ⟨Nat.le_refl 0, Nat.le_refl 0⟩ ?_
  refine G.iconst (v := (0 : Int32)) C dX10_wordHere_4 (by decide) ?_
  refine G.istore_n (L' := [(1, .int (0 : Int32)), (0, .ref (eA E 67))]) C dX10_wordHere_5 rfl rfl (by decide) rfl ?_
  refine G.iconst (v := (0 : Int32)) C dX10_wordHere_6 (by decide) ?_
  refine G.istore_n (L' := [(2, .int (0 : Int32)), (1, .int (0 : Int32)), (0, .ref (eA E 67))]) C dX10_wordHere_7 rfl rfl (by decide) rfl ?_
  exact G.sub [2, 1, 0] rfl (g_X10_wordHere_67_8 hE C hr  h)
def f_X10_wordHere_67  (M : Mm) : Option (Int32 × Mm) := bb_X10_wordHere_67_0 M
theorem s_X10_wordHere_67 {l : Launch} {E : Ev}  {M : Mm} {v : Int32} {M' : Mm} (hE : Has shM (eH E)) (h : f_X10_wordHere_67 M = some (v, M')) : MetA l yX10_wordHere cX10_wordHere 3 (some .int) 3 E [.ref (eA E 67)] M (some (.int v)) M' := by
  refine MetA.of (by decide +kernel) (Nat.le_of_ble_eq_true rfl) ?_
  intro p e s m below meth c C hr hnm
  exact G.sub [0] rfl (gb_X10_wordHere_67_0 hE C hr  h)
def bb_X10_named_49 (x5 : Int32) (s0 : Int32) : Option Int32 := if x5 = 0 then (some s0) else (some (((27 : Int32) * s0) + x5))
set_option maxHeartbeats 4000000 in
set_option maxRecDepth 100000 in
theorem gb_X10_named_49 {M : Mm}  {x5 : Int32} {s0 : Int32} {v : Int32} (C : Cx RX10 cX10_named 7 p (rmD 1) s m args meth c E) (hr : meth.sig.returnType = (some .int)) (h : bb_X10_named_49 x5 s0 = some v) : G p l e (rmD 1) s m args below meth c E 7 0 0 (QR below args s E 0 0 (some (.int v)) M) 49 [(5, .int x5)] [.int s0] M := by
  unfold bb_X10_named_49 at h
  refine G.istore (L' := [(6, .int s0), (5, .int x5)]) C dX10_named_49 rfl (by decide) rfl ?_
  refine G.iload C 1 dX10_named_51 rfl ?_
  refine G.if_ne (tgt := 61) C dX10_named_53 (by decide) (fun hc => ?_) (fun hc => ?_)
  · have h := it_f h hc
    refine G.bipush (v := (27 : Int32)) C dX10_named_61 (by decide) ?_
    refine G.iload C 0 dX10_named_63 rfl ?_
    refine G.imul C dX10_named_65 ?_
    refine G.iload C 1 dX10_named_66 rfl ?_
    refine G.iadd C dX10_named_68 ?_
    cases h
    exact G.iret C hr dX10_named_69
  · have h := it_t h hc
    refine G.iload C 0 dX10_named_56 rfl ?_
    refine G.goto (tgt := 69) C dX10_named_58 (by decide) ?_
    cases h
    exact G.iret C hr dX10_named_69
def bb_X10_named_29 (x4 : Int32) (x5 : Int32) (s0 : Int32) : Option Int32 := if x4 = 0 then (bb_X10_named_49 x5 s0) else (bb_X10_named_49 x5 (((27 : Int32) * s0) + x4))
set_option maxHeartbeats 4000000 in
set_option maxRecDepth 100000 in
theorem gb_X10_named_29 {M : Mm}  {x4 : Int32} {x5 : Int32} {s0 : Int32} {v : Int32} (C : Cx RX10 cX10_named 7 p (rmD 1) s m args meth c E) (hr : meth.sig.returnType = (some .int)) (h : bb_X10_named_29 x4 x5 s0 = some v) : G p l e (rmD 1) s m args below meth c E 7 0 0 (QR below args s E 0 0 (some (.int v)) M) 29 [(4, .int x4), (5, .int x5)] [.int s0] M := by
  unfold bb_X10_named_29 at h
  refine G.istore (L' := [(6, .int s0), (4, .int x4), (5, .int x5)]) C dX10_named_29 rfl (by decide) rfl ?_
  refine G.iload C 1 dX10_named_31 rfl ?_
  refine G.if_ne (tgt := 41) C dX10_named_33 (by decide) (fun hc => ?_) (fun hc => ?_)
  · have h := it_f h hc
    refine G.bipush (v := (27 : Int32)) C dX10_named_41 (by decide) ?_
    refine G.iload C 0 dX10_named_43 rfl ?_
    refine G.imul C dX10_named_45 ?_
    refine G.iload C 1 dX10_named_46 rfl ?_
    refine G.iadd C dX10_named_48 ?_
    exact G.sub [2] rfl (gb_X10_named_49 C hr  h)
  · have h := it_t h hc
    refine G.iload C 0 dX10_named_36 rfl ?_
    refine G.goto (tgt := 49) C dX10_named_38 (by decide) ?_
    exact G.sub [2] rfl (gb_X10_named_49 C hr  h)
def bb_X10_named_0 (x0 : Int32) (x1 : Int32) (x2 : Int32) (x3 : Int32) (x4 : Int32) (x5 : Int32) : Option Int32 := ltv (((27 : Int32) * (((27 : Int32) * x0) + x1)) + x2) fun x6_1 => if x3 = 0 then (bb_X10_named_29 x4 x5 x6_1) else (bb_X10_named_29 x4 x5 (((27 : Int32) * x6_1) + x3))
set_option maxHeartbeats 4000000 in
set_option maxRecDepth 100000 in
theorem gb_X10_named_0 {M : Mm}  {x0 : Int32} {x1 : Int32} {x2 : Int32} {x3 : Int32} {x4 : Int32} {x5 : Int32} {v : Int32} (C : Cx RX10 cX10_named 7 p (rmD 1) s m args meth c E) (hr : meth.sig.returnType = (some .int)) (h : bb_X10_named_0 x0 x1 x2 x3 x4 x5 = some v) : G p l e (rmD 1) s m args below meth c E 7 0 0 (QR below args s E 0 0 (some (.int v)) M) 0 [(0, .int x0), (1, .int x1), (2, .int x2), (3, .int x3), (4, .int x4), (5, .int x5)] [] M := by
  unfold bb_X10_named_0 at h
  refine G.bipush (v := (27 : Int32)) C dX10_named_0 (by decide) ?_
  refine G.bipush (v := (27 : Int32)) C dX10_named_2 (by decide) ?_
  refine G.iload_n C 0 dX10_named_4 rfl rfl ?_
  refine G.imul C dX10_named_5 ?_
  refine G.iload_n C 1 dX10_named_6 rfl rfl ?_
  refine G.iadd C dX10_named_7 ?_
  refine G.imul C dX10_named_8 ?_
  refine G.iload_n C 2 dX10_named_9 rfl rfl ?_
  refine G.iadd C dX10_named_10 ?_
  obtain ⟨x6_1, ex6_1, h⟩ := ltv_ex h
  refine G.istore (L' := [(6, .int x6_1), (0, .int x0), (1, .int x1), (2, .int x2), (3, .int x3), (4, .int x4), (5, .int x5)]) C dX10_named_11 ex6_1 (by decide) rfl ?_
  refine G.iload_n C 4 dX10_named_13 rfl rfl ?_
  refine G.if_ne (tgt := 22) C dX10_named_14 (by decide) (fun hc => ?_) (fun hc => ?_)
  · have h := it_f h hc
    refine G.bipush (v := (27 : Int32)) C dX10_named_22 (by decide) ?_
    refine G.iload C 0 dX10_named_24 rfl ?_
    refine G.imul C dX10_named_26 ?_
    refine G.iload_n C 4 dX10_named_27 rfl rfl ?_
    refine G.iadd C dX10_named_28 ?_
    exact G.sub [5, 6] rfl (gb_X10_named_29 C hr  h)
  · have h := it_t h hc
    refine G.iload C 0 dX10_named_17 rfl ?_
    refine G.goto (tgt := 29) C dX10_named_19 (by decide) ?_
    exact G.sub [5, 6] rfl (gb_X10_named_29 C hr  h)
def f_X10_named (x0 : Int32) (x1 : Int32) (x2 : Int32) (x3 : Int32) (x4 : Int32) (x5 : Int32) : Option Int32 := bb_X10_named_0 x0 x1 x2 x3 x4 x5
theorem s_X10_named {l : Launch} {E : Ev} {x0 : Int32} {x1 : Int32} {x2 : Int32} {x3 : Int32} {x4 : Int32} {x5 : Int32} {M : Mm} {v : Int32} (h : f_X10_named x0 x1 x2 x3 x4 x5 = some v) : MetA l yX10_named cX10_named 7 (some .int) 1 E [.int x0, .int x1, .int x2, .int x3, .int x4, .int x5] M (some (.int v)) M := by
  refine MetA.of (by decide +kernel) (Nat.le_of_ble_eq_true rfl) ?_
  intro p e s m below meth c C hr hnm
  exact G.sub [0, 1, 2, 3, 4, 5] rfl (gb_X10_named_0 C hr  h)
def bb_X10_isWord_67_0 (x1 : Int32) (x2 : Int32) (x3 : Int32) (x4 : Int32) (x5 : Int32) (x6 : Int32) (M : Mm) : Option (Int32 × Mm) := if (M.1 67 5) = 0 then (bd2 (f_X10_wordHere_67 M) fun v_3 M_2 => bd (f_X10_named x1 x2 x3 x4 x5 x6) fun v_5 => if v_3 = v_5 then (some ((1 : Int32), M_2)) else (some ((0 : Int32), M_2))) else (some ((0 : Int32), M))
set_option maxHeartbeats 4000000 in
set_option maxRecDepth 100000 in
theorem gb_X10_isWord_67_0  {x1 : Int32} {x2 : Int32} {x3 : Int32} {x4 : Int32} {x5 : Int32} {x6 : Int32} {M : Mm} {v : Int32} {M' : Mm} (hE : Has shM (eH E)) (C : Cx RX10 cX10_isWord 7 p (rmD 4) s m args meth c E) (hr : meth.sig.returnType = (some .boolean)) (h : bb_X10_isWord_67_0 x1 x2 x3 x4 x5 x6 M = some (v, M')) : G p l e (rmD 4) s m args below meth c E 7 0 0 (QR below args s E 0 0 (some (.int v)) M') 0 [(0, .ref (eA E 67)), (1, .int x1), (2, .int x2), (3, .int x3), (4, .int x4), (5, .int x5), (6, .int x6)] [] M := by
  unfold bb_X10_isWord_67_0 at h
  refine G.aload_n C 0 dX10_isWord_0 rfl rfl ?_
  refine G.getI (k := 5) C k_X10 (sm_67 hE) rfl (by decide) tg_1436 dX10_isWord_1 ?_
  refine G.if_ne (tgt := 30) C dX10_isWord_4 (by decide) (fun hc => ?_) (fun hc => ?_)
  · have h := it_f h hc
    refine G.iconst (v := (0 : Int32)) C dX10_isWord_30 (by decide) ?_
    cases h
    exact G.zret C hr rfl dX10_isWord_31
  · have h := it_t h hc
    refine G.aload_n C 0 dX10_isWord_7 rfl rfl ?_
    obtain ⟨v_3, M_2, hv_1, h⟩ := bd2_ex h
    refine G.callV (rest := []) C (s_X10_wordHere_67 hE  hv_1) ⟨tg_1624, tg_103, ok_X10_wordHere, Nat.le_of_ble_eq_true rfl, Nat.le_of_ble_eq_true rfl⟩ tg_1621 tg_1623 tg_52 (sm_67 hE) rfl rfl (Nat.le_of_ble_eq_true rfl) dX10_isWord_8 ⟨Nat.le_refl 0, Nat.le_refl 0⟩ ?_
    refine G.iload_n C 1 dX10_isWord_11 rfl rfl ?_
    refine G.iload_n C 2 dX10_isWord_12 rfl rfl ?_
    refine G.iload_n C 3 dX10_isWord_13 rfl rfl ?_
    refine G.iload C 4 dX10_isWord_14 rfl ?_
    refine G.iload C 5 dX10_isWord_16 rfl ?_
    refine G.iload C 6 dX10_isWord_18 rfl ?_
    obtain ⟨v_5, hv_4, h⟩ := bd_ex h
    refine G.callS (rest := [.int v_3]) C (s_X10_named  hv_4) ⟨tg_1627, tg_103, ok_X10_named, Nat.le_of_ble_eq_true rfl, Nat.le_of_ble_eq_true rfl⟩ tg_1625 tg_1626 rfl (Nat.le_of_ble_eq_true rfl) dX10_isWord_20 ⟨Nat.le_refl 0, Nat.le_refl 0⟩ ?_
    refine G.icmp_ne (tgt := 30) C dX10_isWord_23 (by decide) (fun hc => ?_) (fun hc => ?_)
    · have h := it_f h hc
      refine G.iconst (v := (0 : Int32)) C dX10_isWord_30 (by decide) ?_
      cases h
      exact G.zret C hr rfl dX10_isWord_31
    · have h := it_t h hc
      refine G.iconst (v := (1 : Int32)) C dX10_isWord_26 (by decide) ?_
      refine G.goto (tgt := 31) C dX10_isWord_27 (by decide) ?_
      cases h
      exact G.zret C hr rfl dX10_isWord_31
def f_X10_isWord_67 (x1 : Int32) (x2 : Int32) (x3 : Int32) (x4 : Int32) (x5 : Int32) (x6 : Int32) (M : Mm) : Option (Int32 × Mm) := bb_X10_isWord_67_0 x1 x2 x3 x4 x5 x6 M
theorem s_X10_isWord_67 {l : Launch} {E : Ev} {x1 : Int32} {x2 : Int32} {x3 : Int32} {x4 : Int32} {x5 : Int32} {x6 : Int32} {M : Mm} {v : Int32} {M' : Mm} (hE : Has shM (eH E)) (h : f_X10_isWord_67 x1 x2 x3 x4 x5 x6 M = some (v, M')) : MetA l yX10_isWord cX10_isWord 7 (some .boolean) 4 E [.ref (eA E 67), .int x1, .int x2, .int x3, .int x4, .int x5, .int x6] M (some (.int v)) M' := by
  refine MetA.of (by decide +kernel) (Nat.le_of_ble_eq_true rfl) ?_
  intro p e s m below meth c C hr hnm
  exact G.sub [0, 1, 2, 3, 4, 5, 6] rfl (gb_X10_isWord_67_0 hE C hr  h)
def bb_X10_kindHere_67_0  (M : Mm) : Option (Int32 × Mm) := bd2 (f_X10_isWord_67 (12 : Int32) (5 : Int32) (20 : Int32) (20 : Int32) (5 : Int32) (18 : Int32) M) fun v_3 M_2 => if v_3 = 0 then (bd2 (f_X10_isWord_67 (20 : Int32) (21 : Int32) (18 : Int32) (14 : Int32) (5 : Int32) (4 : Int32) M_2) fun v_6 M_5 => if v_6 = 0 then (bd2 (f_X10_isWord_67 (13 : Int32) (9 : Int32) (18 : Int32) (18 : Int32) (15 : Int32) (18 : Int32) M_5) fun v_9 M_8 => if v_9 = 0 then (bd2 (f_X10_isWord_67 (2 : Int32) (1 : Int32) (18 : Int32) (0 : Int32) (0 : Int32) (0 : Int32) M_8) fun v_12 M_11 => if v_12 = 0 then (bd2 (f_X10_isWord_67 (18 : Int32) (9 : Int32) (14 : Int32) (7 : Int32) (0 : Int32) (0 : Int32) M_11) fun v_15 M_14 => if v_15 = 0 then (bd2 (f_X10_isWord_67 (3 : Int32) (21 : Int32) (20 : Int32) (0 : Int32) (0 : Int32) (0 : Int32) M_14) fun v_18 M_17 => if v_18 = 0 then (bd2 (f_X10_isWord_67 (23 : Int32) (15 : Int32) (18 : Int32) (4 : Int32) (0 : Int32) (0 : Int32) M_17) fun v_21 M_20 => if v_21 = 0 then (bd2 (f_X10_isWord_67 (19 : Int32) (16 : Int32) (18 : Int32) (5 : Int32) (1 : Int32) (4 : Int32) M_20) fun v_24 M_23 => if v_24 = 0 then (some ((-1 : Int32), M_23)) else (some ((7 : Int32), M_23))) else (some ((6 : Int32), M_20))) else (some ((5 : Int32), M_17))) else (some ((4 : Int32), M_14))) else (some ((3 : Int32), M_11))) else (some ((2 : Int32), M_8))) else (some ((1 : Int32), M_5))) else (some ((0 : Int32), M_2))
set_option maxHeartbeats 4000000 in
set_option maxRecDepth 100000 in
theorem gb_X10_kindHere_67_0   {M : Mm} {v : Int32} {M' : Mm} (hE : Has shM (eH E)) (C : Cx RX10 cX10_kindHere 1 p (rmD 5) s m args meth c E) (hr : meth.sig.returnType = (some .int)) (h : bb_X10_kindHere_67_0 M = some (v, M')) : G p l e (rmD 5) s m args below meth c E 1 0 0 (QR below args s E 0 0 (some (.int v)) M') 0 [(0, .ref (eA E 67))] [] M := by
  unfold bb_X10_kindHere_67_0 at h
  refine G.aload_n C 0 dX10_kindHere_0 rfl rfl ?_
  refine G.bipush (v := (12 : Int32)) C dX10_kindHere_1 (by decide) ?_
  refine G.iconst (v := (5 : Int32)) C dX10_kindHere_3 (by decide) ?_
  refine G.bipush (v := (20 : Int32)) C dX10_kindHere_4 (by decide) ?_
  refine G.bipush (v := (20 : Int32)) C dX10_kindHere_6 (by decide) ?_
  refine G.iconst (v := (5 : Int32)) C dX10_kindHere_8 (by decide) ?_
  refine G.bipush (v := (18 : Int32)) C dX10_kindHere_9 (by decide) ?_
  obtain ⟨v_3, M_2, hv_1, h⟩ := bd2_ex h
  refine G.callV (rest := []) C (s_X10_isWord_67 hE  hv_1) ⟨tg_1620, tg_103, ok_X10_isWord, Nat.le_of_ble_eq_true rfl, Nat.le_of_ble_eq_true rfl⟩ tg_1617 tg_1619 tg_51 (sm_67 hE) rfl rfl (Nat.le_of_ble_eq_true rfl) dX10_kindHere_11 ⟨Nat.le_refl 0, Nat.le_refl 0⟩ ?_
  refine G.if_eq (tgt := 19) C dX10_kindHere_14 (by decide) (fun hc => ?_) (fun hc => ?_)
  · have h := it_t h hc
    refine G.aload_n C 0 dX10_kindHere_19 rfl rfl ?_
    refine G.bipush (v := (20 : Int32)) C dX10_kindHere_20 (by decide) ?_
    refine G.bipush (v := (21 : Int32)) C dX10_kindHere_22 (by decide) ?_
    refine G.bipush (v := (18 : Int32)) C dX10_kindHere_24 (by decide) ?_
    refine G.bipush (v := (14 : Int32)) C dX10_kindHere_26 (by decide) ?_
    refine G.iconst (v := (5 : Int32)) C dX10_kindHere_28 (by decide) ?_
    refine G.iconst (v := (4 : Int32)) C dX10_kindHere_29 (by decide) ?_
    obtain ⟨v_6, M_5, hv_4, h⟩ := bd2_ex h
    refine G.callV (rest := []) C (s_X10_isWord_67 hE  hv_4) ⟨tg_1620, tg_103, ok_X10_isWord, Nat.le_of_ble_eq_true rfl, Nat.le_of_ble_eq_true rfl⟩ tg_1617 tg_1619 tg_51 (sm_67 hE) rfl rfl (Nat.le_of_ble_eq_true rfl) dX10_kindHere_30 ⟨Nat.le_refl 0, Nat.le_refl 0⟩ ?_
    refine G.if_eq (tgt := 38) C dX10_kindHere_33 (by decide) (fun hc => ?_) (fun hc => ?_)
    · have h := it_t h hc
      refine G.aload_n C 0 dX10_kindHere_38 rfl rfl ?_
      refine G.bipush (v := (13 : Int32)) C dX10_kindHere_39 (by decide) ?_
      refine G.bipush (v := (9 : Int32)) C dX10_kindHere_41 (by decide) ?_
      refine G.bipush (v := (18 : Int32)) C dX10_kindHere_43 (by decide) ?_
      refine G.bipush (v := (18 : Int32)) C dX10_kindHere_45 (by decide) ?_
      refine G.bipush (v := (15 : Int32)) C dX10_kindHere_47 (by decide) ?_
      refine G.bipush (v := (18 : Int32)) C dX10_kindHere_49 (by decide) ?_
      obtain ⟨v_9, M_8, hv_7, h⟩ := bd2_ex h
      refine G.callV (rest := []) C (s_X10_isWord_67 hE  hv_7) ⟨tg_1620, tg_103, ok_X10_isWord, Nat.le_of_ble_eq_true rfl, Nat.le_of_ble_eq_true rfl⟩ tg_1617 tg_1619 tg_51 (sm_67 hE) rfl rfl (Nat.le_of_ble_eq_true rfl) dX10_kindHere_51 ⟨Nat.le_refl 0, Nat.le_refl 0⟩ ?_
      refine G.if_eq (tgt := 59) C dX10_kindHere_54 (by decide) (fun hc => ?_) (fun hc => ?_)
      · have h := it_t h hc
        refine G.aload_n C 0 dX10_kindHere_59 rfl rfl ?_
        refine G.iconst (v := (2 : Int32)) C dX10_kindHere_60 (by decide) ?_
        refine G.iconst (v := (1 : Int32)) C dX10_kindHere_61 (by decide) ?_
        refine G.bipush (v := (18 : Int32)) C dX10_kindHere_62 (by decide) ?_
        refine G.iconst (v := (0 : Int32)) C dX10_kindHere_64 (by decide) ?_
        refine G.iconst (v := (0 : Int32)) C dX10_kindHere_65 (by decide) ?_
        refine G.iconst (v := (0 : Int32)) C dX10_kindHere_66 (by decide) ?_
        obtain ⟨v_12, M_11, hv_10, h⟩ := bd2_ex h
        refine G.callV (rest := []) C (s_X10_isWord_67 hE  hv_10) ⟨tg_1620, tg_103, ok_X10_isWord, Nat.le_of_ble_eq_true rfl, Nat.le_of_ble_eq_true rfl⟩ tg_1617 tg_1619 tg_51 (sm_67 hE) rfl rfl (Nat.le_of_ble_eq_true rfl) dX10_kindHere_67 ⟨Nat.le_refl 0, Nat.le_refl 0⟩ ?_
        refine G.if_eq (tgt := 75) C dX10_kindHere_70 (by decide) (fun hc => ?_) (fun hc => ?_)
        · have h := it_t h hc
          refine G.aload_n C 0 dX10_kindHere_75 rfl rfl ?_
          refine G.bipush (v := (18 : Int32)) C dX10_kindHere_76 (by decide) ?_
          refine G.bipush (v := (9 : Int32)) C dX10_kindHere_78 (by decide) ?_
          refine G.bipush (v := (14 : Int32)) C dX10_kindHere_80 (by decide) ?_
          refine G.bipush (v := (7 : Int32)) C dX10_kindHere_82 (by decide) ?_
          refine G.iconst (v := (0 : Int32)) C dX10_kindHere_84 (by decide) ?_
          refine G.iconst (v := (0 : Int32)) C dX10_kindHere_85 (by decide) ?_
          obtain ⟨v_15, M_14, hv_13, h⟩ := bd2_ex h
          refine G.callV (rest := []) C (s_X10_isWord_67 hE  hv_13) ⟨tg_1620, tg_103, ok_X10_isWord, Nat.le_of_ble_eq_true rfl, Nat.le_of_ble_eq_true rfl⟩ tg_1617 tg_1619 tg_51 (sm_67 hE) rfl rfl (Nat.le_of_ble_eq_true rfl) dX10_kindHere_86 ⟨Nat.le_refl 0, Nat.le_refl 0⟩ ?_
          refine G.if_eq (tgt := 94) C dX10_kindHere_89 (by decide) (fun hc => ?_) (fun hc => ?_)
          · have h := it_t h hc
            refine G.aload_n C 0 dX10_kindHere_94 rfl rfl ?_
            refine G.iconst (v := (3 : Int32)) C dX10_kindHere_95 (by decide) ?_
            refine G.bipush (v := (21 : Int32)) C dX10_kindHere_96 (by decide) ?_
            refine G.bipush (v := (20 : Int32)) C dX10_kindHere_98 (by decide) ?_
            refine G.iconst (v := (0 : Int32)) C dX10_kindHere_100 (by decide) ?_
            refine G.iconst (v := (0 : Int32)) C dX10_kindHere_101 (by decide) ?_
            refine G.iconst (v := (0 : Int32)) C dX10_kindHere_102 (by decide) ?_
            obtain ⟨v_18, M_17, hv_16, h⟩ := bd2_ex h
            refine G.callV (rest := []) C (s_X10_isWord_67 hE  hv_16) ⟨tg_1620, tg_103, ok_X10_isWord, Nat.le_of_ble_eq_true rfl, Nat.le_of_ble_eq_true rfl⟩ tg_1617 tg_1619 tg_51 (sm_67 hE) rfl rfl (Nat.le_of_ble_eq_true rfl) dX10_kindHere_103 ⟨Nat.le_refl 0, Nat.le_refl 0⟩ ?_
            refine G.if_eq (tgt := 111) C dX10_kindHere_106 (by decide) (fun hc => ?_) (fun hc => ?_)
            · have h := it_t h hc
              refine G.aload_n C 0 dX10_kindHere_111 rfl rfl ?_
              refine G.bipush (v := (23 : Int32)) C dX10_kindHere_112 (by decide) ?_
              refine G.bipush (v := (15 : Int32)) C dX10_kindHere_114 (by decide) ?_
              refine G.bipush (v := (18 : Int32)) C dX10_kindHere_116 (by decide) ?_
              refine G.iconst (v := (4 : Int32)) C dX10_kindHere_118 (by decide) ?_
              refine G.iconst (v := (0 : Int32)) C dX10_kindHere_119 (by decide) ?_
              refine G.iconst (v := (0 : Int32)) C dX10_kindHere_120 (by decide) ?_
              obtain ⟨v_21, M_20, hv_19, h⟩ := bd2_ex h
              refine G.callV (rest := []) C (s_X10_isWord_67 hE  hv_19) ⟨tg_1620, tg_103, ok_X10_isWord, Nat.le_of_ble_eq_true rfl, Nat.le_of_ble_eq_true rfl⟩ tg_1617 tg_1619 tg_51 (sm_67 hE) rfl rfl (Nat.le_of_ble_eq_true rfl) dX10_kindHere_121 ⟨Nat.le_refl 0, Nat.le_refl 0⟩ ?_
              refine G.if_eq (tgt := 130) C dX10_kindHere_124 (by decide) (fun hc => ?_) (fun hc => ?_)
              · have h := it_t h hc
                refine G.aload_n C 0 dX10_kindHere_130 rfl rfl ?_
                refine G.bipush (v := (19 : Int32)) C dX10_kindHere_131 (by decide) ?_
                refine G.bipush (v := (16 : Int32)) C dX10_kindHere_133 (by decide) ?_
                refine G.bipush (v := (18 : Int32)) C dX10_kindHere_135 (by decide) ?_
                refine G.iconst (v := (5 : Int32)) C dX10_kindHere_137 (by decide) ?_
                refine G.iconst (v := (1 : Int32)) C dX10_kindHere_138 (by decide) ?_
                refine G.iconst (v := (4 : Int32)) C dX10_kindHere_139 (by decide) ?_
                obtain ⟨v_24, M_23, hv_22, h⟩ := bd2_ex h
                refine G.callV (rest := []) C (s_X10_isWord_67 hE  hv_22) ⟨tg_1620, tg_103, ok_X10_isWord, Nat.le_of_ble_eq_true rfl, Nat.le_of_ble_eq_true rfl⟩ tg_1617 tg_1619 tg_51 (sm_67 hE) rfl rfl (Nat.le_of_ble_eq_true rfl) dX10_kindHere_140 ⟨Nat.le_refl 0, Nat.le_refl 0⟩ ?_
                refine G.if_eq (tgt := 151) C dX10_kindHere_143 (by decide) (fun hc => ?_) (fun hc => ?_)
                · have h := it_t h hc
                  refine G.iconst (v := (-1 : Int32)) C dX10_kindHere_151 (by decide) ?_
                  cases h
                  exact G.iret C hr dX10_kindHere_152
                · have h := it_f h hc
                  refine G.bipush (v := (7 : Int32)) C dX10_kindHere_146 (by decide) ?_
                  refine G.goto (tgt := 152) C dX10_kindHere_148 (by decide) ?_
                  cases h
                  exact G.iret C hr dX10_kindHere_152
              · have h := it_f h hc
                refine G.bipush (v := (6 : Int32)) C dX10_kindHere_127 (by decide) ?_
                cases h
                exact G.iret C hr dX10_kindHere_129
            · have h := it_f h hc
              refine G.iconst (v := (5 : Int32)) C dX10_kindHere_109 (by decide) ?_
              cases h
              exact G.iret C hr dX10_kindHere_110
          · have h := it_f h hc
            refine G.iconst (v := (4 : Int32)) C dX10_kindHere_92 (by decide) ?_
            cases h
            exact G.iret C hr dX10_kindHere_93
        · have h := it_f h hc
          refine G.iconst (v := (3 : Int32)) C dX10_kindHere_73 (by decide) ?_
          cases h
          exact G.iret C hr dX10_kindHere_74
      · have h := it_f h hc
        refine G.iconst (v := (2 : Int32)) C dX10_kindHere_57 (by decide) ?_
        cases h
        exact G.iret C hr dX10_kindHere_58
    · have h := it_f h hc
      refine G.iconst (v := (1 : Int32)) C dX10_kindHere_36 (by decide) ?_
      cases h
      exact G.iret C hr dX10_kindHere_37
  · have h := it_f h hc
    refine G.iconst (v := (0 : Int32)) C dX10_kindHere_17 (by decide) ?_
    cases h
    exact G.iret C hr dX10_kindHere_18
def f_X10_kindHere_67  (M : Mm) : Option (Int32 × Mm) := bb_X10_kindHere_67_0 M
theorem s_X10_kindHere_67 {l : Launch} {E : Ev}  {M : Mm} {v : Int32} {M' : Mm} (hE : Has shM (eH E)) (h : f_X10_kindHere_67 M = some (v, M')) : MetA l yX10_kindHere cX10_kindHere 1 (some .int) 5 E [.ref (eA E 67)] M (some (.int v)) M' := by
  refine MetA.of (by decide +kernel) (Nat.le_of_ble_eq_true rfl) ?_
  intro p e s m below meth c C hr hnm
  exact G.sub [0] rfl (gb_X10_kindHere_67_0 hE C hr  h)
def bb_X10_wrong_67_0 (x1 : Int32) (x2 : Int32) (M : Mm) : Option Mm := if (M.1 67 5) = 0 then (ltv (wI M 67 5 x1) fun M_1 => ltv (wI M_1 67 6 x2) fun M_2 => some M_2) else (some M)
set_option maxHeartbeats 4000000 in
set_option maxRecDepth 100000 in
theorem gb_X10_wrong_67_0  {x1 : Int32} {x2 : Int32} {M : Mm} {M' : Mm} (hE : Has shM (eH E)) (C : Cx RX10 cX10_wrong 3 p (rmD 1) s m args meth c E) (hr : meth.sig.returnType = none) (h : bb_X10_wrong_67_0 x1 x2 M = some M') : G p l e (rmD 1) s m args below meth c E 3 0 0 (QR below args s E 0 0 none M') 0 [(0, .ref (eA E 67)), (1, .int x1), (2, .int x2)] [] M := by
  unfold bb_X10_wrong_67_0 at h
  refine G.aload_n C 0 dX10_wrong_0 rfl rfl ?_
  refine G.getI (k := 5) C k_X10 (sm_67 hE) rfl (by decide) tg_1436 dX10_wrong_1 ?_
  refine G.if_ne (tgt := 17) C dX10_wrong_4 (by decide) (fun hc => ?_) (fun hc => ?_)
  · have h := it_f h hc
    cases h
    exact G.vret C hr dX10_wrong_17
  · have h := it_t h hc
    refine G.aload_n C 0 dX10_wrong_7 rfl rfl ?_
    refine G.iload_n C 1 dX10_wrong_8 rfl rfl ?_
    obtain ⟨M_1, eM_1, h⟩ := ltv_ex h
    refine G.putI (k := 5) C k_X10 (sm_67 hE) rfl (by decide) tg_1436 rfl rfl dX10_wrong_9 eM_1 ?_
    refine G.aload_n C 0 dX10_wrong_12 rfl rfl ?_
    refine G.iload_n C 2 dX10_wrong_13 rfl rfl ?_
    obtain ⟨M_2, eM_2, h⟩ := ltv_ex h
    refine G.putI (k := 6) C k_X10 (sm_67 hE) rfl (by decide) tg_1437 rfl rfl dX10_wrong_14 eM_2 ?_
    cases h
    exact G.vret C hr dX10_wrong_17
def f_X10_wrong_67 (x1 : Int32) (x2 : Int32) (M : Mm) : Option Mm := bb_X10_wrong_67_0 x1 x2 M
theorem s_X10_wrong_67 {l : Launch} {E : Ev} {x1 : Int32} {x2 : Int32} {M : Mm} {M' : Mm} (hE : Has shM (eH E)) (h : f_X10_wrong_67 x1 x2 M = some M') : MetA l yX10_wrong cX10_wrong 3 none 1 E [.ref (eA E 67), .int x1, .int x2] M none M' := by
  refine MetA.of (by decide +kernel) (Nat.le_of_ble_eq_true rfl) ?_
  intro p e s m below meth c C hr hnm
  exact G.sub [0, 1, 2] rfl (gb_X10_wrong_67_0 hE C hr  h)
def bb_X10_skipWord_67_0 (k_0 : Mm → Option Mm)  (M : Mm) : Option Mm := bd (f_X10_byteAt_67 (M.1 67 4) M) fun v_2 => if v_2 < (97 : Int32) then (some M) else (bd (f_X10_byteAt_67 (M.1 67 4) M) fun v_4 => if (122 : Int32) < v_4 then (some M) else (ltv (wI M 67 4 ((M.1 67 4) + (1 : Int32))) fun M_5 => k_0 M_5))
set_option maxHeartbeats 4000000 in
set_option maxRecDepth 100000 in
theorem gb_X10_skipWord_67_0  {k_0 : Mm → Option Mm}  {M : Mm} {M' : Mm} (hE : Has shM (eH E)) (C : Cx RX10 cX10_skipWord 1 p (rmD 2) s m args meth c E) (hr : meth.sig.returnType = none) (hk_0 : ∀  (M : Mm), k_0 M = some M' → G p l e (rmD 2) s m args below meth c E 1 0 0 (QR below args s E 0 0 none M') 0 [(0, .ref (eA E 67))] [] M) (h : bb_X10_skipWord_67_0 k_0 M = some M') : G p l e (rmD 2) s m args below meth c E 1 0 0 (QR below args s E 0 0 none M') 0 [(0, .ref (eA E 67))] [] M := by
  unfold bb_X10_skipWord_67_0 at h
  refine G.aload_n C 0 dX10_skipWord_0 rfl rfl ?_
  refine G.aload_n C 0 dX10_skipWord_1 rfl rfl ?_
  refine G.getI (k := 4) C k_X10 (sm_67 hE) rfl (by decide) tg_1435 dX10_skipWord_2 ?_
  obtain ⟨v_2, hv_1, h⟩ := bd_ex h
  refine G.callV (rest := []) C (s_X10_byteAt_67 hE  hv_1) ⟨tg_1608, tg_103, ok_X10_byteAt, Nat.le_of_ble_eq_true rfl, Nat.le_of_ble_eq_true rfl⟩ tg_1605 tg_1607 tg_48 (sm_67 hE) rfl rfl (Nat.le_of_ble_eq_true rfl) dX10_skipWord_5 ⟨Nat.le_refl 0, Nat.le_refl 0⟩ ?_
  refine G.bipush (v := (97 : Int32)) C dX10_skipWord_8 (by decide) ?_
  refine G.icmp_lt (tgt := 39) C dX10_skipWord_10 (by decide) (fun hc => ?_) (fun hc => ?_)
  · have h := it_t h hc
    cases h
    exact G.vret C hr dX10_skipWord_39
  · have h := it_f h hc
    refine G.aload_n C 0 dX10_skipWord_13 rfl rfl ?_
    refine G.aload_n C 0 dX10_skipWord_14 rfl rfl ?_
    refine G.getI (k := 4) C k_X10 (sm_67 hE) rfl (by decide) tg_1435 dX10_skipWord_15 ?_
    obtain ⟨v_4, hv_3, h⟩ := bd_ex h
    refine G.callV (rest := []) C (s_X10_byteAt_67 hE  hv_3) ⟨tg_1608, tg_103, ok_X10_byteAt, Nat.le_of_ble_eq_true rfl, Nat.le_of_ble_eq_true rfl⟩ tg_1605 tg_1607 tg_48 (sm_67 hE) rfl rfl (Nat.le_of_ble_eq_true rfl) dX10_skipWord_18 ⟨Nat.le_refl 0, Nat.le_refl 0⟩ ?_
    refine G.bipush (v := (122 : Int32)) C dX10_skipWord_21 (by decide) ?_
    refine G.icmp_gt (tgt := 39) C dX10_skipWord_23 (by decide) (fun hc => ?_) (fun hc => ?_)
    · have h := it_t h hc
      cases h
      exact G.vret C hr dX10_skipWord_39
    · have h := it_f h hc
      refine G.aload_n C 0 dX10_skipWord_26 rfl rfl ?_
      refine G.dup C dX10_skipWord_27 rfl ?_
      refine G.getI (k := 4) C k_X10 (sm_67 hE) rfl (by decide) tg_1435 dX10_skipWord_28 ?_
      refine G.iconst (v := (1 : Int32)) C dX10_skipWord_31 (by decide) ?_
      refine G.iadd C dX10_skipWord_32 ?_
      obtain ⟨M_5, eM_5, h⟩ := ltv_ex h
      refine G.putI (k := 4) C k_X10 (sm_67 hE) rfl (by decide) tg_1435 rfl rfl dX10_skipWord_33 eM_5 ?_
      refine G.goto (tgt := 0) C dX10_skipWord_36 (by decide) ?_
      exact G.sub [0] rfl (hk_0 _  h)
def b_X10_skipWord_67_0 : Nat → Mm → Option Mm
  | 0, _ => none
  | n + 1, M => bb_X10_skipWord_67_0 (b_X10_skipWord_67_0 n) M
set_option maxHeartbeats 4000000 in
theorem g_X10_skipWord_67_0  {n : Nat}  {M : Mm} {M' : Mm} (hE : Has shM (eH E)) (C : Cx RX10 cX10_skipWord 1 p (rmD 2) s m args meth c E) (hr : meth.sig.returnType = none) (h : b_X10_skipWord_67_0 n M = some M') : G p l e (rmD 2) s m args below meth c E 1 0 0 (QR below args s E 0 0 none M') 0 [(0, .ref (eA E 67))] [] M := by
  induction n generalizing M with
  | zero => cases h
  | succ n ih => exact gb_X10_skipWord_67_0 hE C hr (fun _ => ih)  h
def f_X10_skipWord_67  (M : Mm) : Option Mm := b_X10_skipWord_67_0 FU M
theorem s_X10_skipWord_67 {l : Launch} {E : Ev}  {M : Mm} {M' : Mm} (hE : Has shM (eH E)) (h : f_X10_skipWord_67 M = some M') : MetA l yX10_skipWord cX10_skipWord 1 none 2 E [.ref (eA E 67)] M none M' := by
  refine MetA.of (by decide +kernel) (Nat.le_of_ble_eq_true rfl) ?_
  intro p e s m below meth c C hr hnm
  exact G.sub [0] rfl (g_X10_skipWord_67_0 hE C hr  h)
def bb_X10_isDigit_0 (x0 : Int32) : Option Int32 := if x0 < (48 : Int32) then (some (0 : Int32)) else (if (57 : Int32) < x0 then (some (0 : Int32)) else (some (1 : Int32)))
set_option maxHeartbeats 4000000 in
set_option maxRecDepth 100000 in
theorem gb_X10_isDigit_0 {M : Mm}  {x0 : Int32} {v : Int32} (C : Cx RX10 cX10_isDigit 1 p (rmD 1) s m args meth c E) (hr : meth.sig.returnType = (some .boolean)) (h : bb_X10_isDigit_0 x0 = some v) : G p l e (rmD 1) s m args below meth c E 1 0 0 (QR below args s E 0 0 (some (.int v)) M) 0 [(0, .int x0)] [] M := by
  unfold bb_X10_isDigit_0 at h
  refine G.iload_n C 0 dX10_isDigit_0 rfl rfl ?_
  refine G.bipush (v := (48 : Int32)) C dX10_isDigit_1 (by decide) ?_
  refine G.icmp_lt (tgt := 16) C dX10_isDigit_3 (by decide) (fun hc => ?_) (fun hc => ?_)
  · have h := it_t h hc
    refine G.iconst (v := (0 : Int32)) C dX10_isDigit_16 (by decide) ?_
    cases h
    exact G.zret C hr rfl dX10_isDigit_17
  · have h := it_f h hc
    refine G.iload_n C 0 dX10_isDigit_6 rfl rfl ?_
    refine G.bipush (v := (57 : Int32)) C dX10_isDigit_7 (by decide) ?_
    refine G.icmp_gt (tgt := 16) C dX10_isDigit_9 (by decide) (fun hc => ?_) (fun hc => ?_)
    · have h := it_t h hc
      refine G.iconst (v := (0 : Int32)) C dX10_isDigit_16 (by decide) ?_
      cases h
      exact G.zret C hr rfl dX10_isDigit_17
    · have h := it_f h hc
      refine G.iconst (v := (1 : Int32)) C dX10_isDigit_12 (by decide) ?_
      refine G.goto (tgt := 17) C dX10_isDigit_13 (by decide) ?_
      cases h
      exact G.zret C hr rfl dX10_isDigit_17
def f_X10_isDigit (x0 : Int32) : Option Int32 := bb_X10_isDigit_0 x0
theorem s_X10_isDigit {l : Launch} {E : Ev} {x0 : Int32} {M : Mm} {v : Int32} (h : f_X10_isDigit x0 = some v) : MetA l yX10_isDigit cX10_isDigit 1 (some .boolean) 1 E [.int x0] M (some (.int v)) M := by
  refine MetA.of (by decide +kernel) (Nat.le_of_ble_eq_true rfl) ?_
  intro p e s m below meth c C hr hnm
  exact G.sub [0] rfl (gb_X10_isDigit_0 C hr  h)
def bb_X10_numberHere_67_44 (k_44 : Int32 → Int32 → Int32 → Int32 → Mm → Option (Int32 × Mm)) (x1 : Int32) (x2 : Int32) (x3 : Int32) (x4 : Int32) (M : Mm) : Option (Int32 × Mm) := bd (f_X10_byteAt_67 (M.1 67 4) M) fun v_11 => bd (f_X10_isDigit v_11) fun v_13 => if v_13 = 0 then (bd (f_X10_in x4 x1 x2) fun v_15 => if v_15 = 0 then (bd (f_X10_wrong_67 (2 : Int32) x3 M) fun M_17 => if (M_17.1 67 5) = 0 then (some (x4, M_17)) else (some ((0 : Int32), M_17))) else (if (M.1 67 5) = 0 then (some (x4, M)) else (some ((0 : Int32), M)))) else (bd (f_X10_byteAt_67 (M.1 67 4) M) fun v_19 => ltv ((((10 : Int32) * x4) + v_19) - (48 : Int32)) fun x4_20 => if x4_20 ≤ (100000 : Int32) then (ltv (wI M 67 4 ((M.1 67 4) + (1 : Int32))) fun M_21 => k_44 x1 x2 x3 x4_20 M_21) else (ltv (wI M 67 4 ((M.1 67 4) + (1 : Int32))) fun M_22 => k_44 x1 x2 x3 (100000 : Int32) M_22))
set_option maxHeartbeats 4000000 in
set_option maxRecDepth 100000 in
theorem gb_X10_numberHere_67_44  {k_44 : Int32 → Int32 → Int32 → Int32 → Mm → Option (Int32 × Mm)} {x1 : Int32} {x2 : Int32} {x3 : Int32} {x4 : Int32} {M : Mm} {v : Int32} {M' : Mm} (hE : Has shM (eH E)) (C : Cx RX10 cX10_numberHere 5 p (rmD 3) s m args meth c E) (hr : meth.sig.returnType = (some .int)) (hk_44 : ∀ (x1 : Int32) (x2 : Int32) (x3 : Int32) (x4 : Int32) (M : Mm), k_44 x1 x2 x3 x4 M = some (v, M') → G p l e (rmD 3) s m args below meth c E 5 0 0 (QR below args s E 0 0 (some (.int v)) M') 44 [(0, .ref (eA E 67)), (1, .int x1), (2, .int x2), (3, .int x3), (4, .int x4)] [] M) (h : bb_X10_numberHere_67_44 k_44 x1 x2 x3 x4 M = some (v, M')) : G p l e (rmD 3) s m args below meth c E 5 0 0 (QR below args s E 0 0 (some (.int v)) M') 44 [(0, .ref (eA E 67)), (1, .int x1), (2, .int x2), (3, .int x3), (4, .int x4)] [] M := by
  unfold bb_X10_numberHere_67_44 at h
  refine G.aload_n C 0 dX10_numberHere_44 rfl rfl ?_
  refine G.aload_n C 0 dX10_numberHere_45 rfl rfl ?_
  refine G.getI (k := 4) C k_X10 (sm_67 hE) rfl (by decide) tg_1435 dX10_numberHere_46 ?_
  obtain ⟨v_11, hv_10, h⟩ := bd_ex h
  refine G.callV (rest := []) C (s_X10_byteAt_67 hE  hv_10) ⟨tg_1608, tg_103, ok_X10_byteAt, Nat.le_of_ble_eq_true rfl, Nat.le_of_ble_eq_true rfl⟩ tg_1605 tg_1607 tg_48 (sm_67 hE) rfl rfl (Nat.le_of_ble_eq_true rfl) dX10_numberHere_49 ⟨Nat.le_refl 0, Nat.le_refl 0⟩ ?_
  obtain ⟨v_13, hv_12, h⟩ := bd_ex h
  refine G.callS (rest := []) C (s_X10_isDigit  hv_12) ⟨tg_1646, tg_103, ok_X10_isDigit, Nat.le_of_ble_eq_true rfl, Nat.le_of_ble_eq_true rfl⟩ tg_1644 tg_1645 rfl (Nat.le_of_ble_eq_true rfl) dX10_numberHere_52 ⟨Nat.le_refl 0, Nat.le_refl 0⟩ ?_
  refine G.if_eq (tgt := 106) C dX10_numberHere_55 (by decide) (fun hc => ?_) (fun hc => ?_)
  · have h := it_t h hc
    refine G.iload C 4 dX10_numberHere_106 rfl ?_
    refine G.iload_n C 1 dX10_numberHere_108 rfl rfl ?_
    refine G.iload_n C 2 dX10_numberHere_109 rfl rfl ?_
    obtain ⟨v_15, hv_14, h⟩ := bd_ex h
    refine G.callS (rest := []) C (s_X10_in  hv_14) ⟨tg_1596, tg_103, ok_X10_in, Nat.le_of_ble_eq_true rfl, Nat.le_of_ble_eq_true rfl⟩ tg_1594 tg_1595 rfl (Nat.le_of_ble_eq_true rfl) dX10_numberHere_110 ⟨Nat.le_refl 0, Nat.le_refl 0⟩ ?_
    refine G.if_ne (tgt := 122) C dX10_numberHere_113 (by decide) (fun hc => ?_) (fun hc => ?_)
    · have h := it_f h hc
      refine G.aload_n C 0 dX10_numberHere_122 rfl rfl ?_
      refine G.getI (k := 5) C k_X10 (sm_67 hE) rfl (by decide) tg_1436 dX10_numberHere_123 ?_
      refine G.if_ne (tgt := 134) C dX10_numberHere_126 (by decide) (fun hc => ?_) (fun hc => ?_)
      · have h := it_f h hc
        refine G.iconst (v := (0 : Int32)) C dX10_numberHere_134 (by decide) ?_
        cases h
        exact G.iret C hr dX10_numberHere_135
      · have h := it_t h hc
        refine G.iload C 4 dX10_numberHere_129 rfl ?_
        refine G.goto (tgt := 135) C dX10_numberHere_131 (by decide) ?_
        cases h
        exact G.iret C hr dX10_numberHere_135
    · have h := it_t h hc
      refine G.aload_n C 0 dX10_numberHere_116 rfl rfl ?_
      refine G.iconst (v := (2 : Int32)) C dX10_numberHere_117 (by decide) ?_
      refine G.iload_n C 3 dX10_numberHere_118 rfl rfl ?_
      obtain ⟨M_17, hv_16, h⟩ := bd_ex h
      refine G.callV (rest := []) C (s_X10_wrong_67 hE  hv_16) ⟨tg_1631, tg_103, ok_X10_wrong, Nat.le_of_ble_eq_true rfl, Nat.le_of_ble_eq_true rfl⟩ tg_1628 tg_1630 tg_53 (sm_67 hE) rfl rfl (Nat.le_of_ble_eq_true rfl) dX10_numberHere_119 ⟨Nat.le_refl 0, Nat.le_refl 0⟩ ?_
      refine G.aload_n C 0 dX10_numberHere_122 rfl rfl ?_
      refine G.getI (k := 5) C k_X10 (sm_67 hE) rfl (by decide) tg_1436 dX10_numberHere_123 ?_
      refine G.if_ne (tgt := 134) C dX10_numberHere_126 (by decide) (fun hc => ?_) (fun hc => ?_)
      · have h := it_f h hc
        refine G.iconst (v := (0 : Int32)) C dX10_numberHere_134 (by decide) ?_
        cases h
        exact G.iret C hr dX10_numberHere_135
      · have h := it_t h hc
        refine G.iload C 4 dX10_numberHere_129 rfl ?_
        refine G.goto (tgt := 135) C dX10_numberHere_131 (by decide) ?_
        cases h
        exact G.iret C hr dX10_numberHere_135
  · have h := it_f h hc
    refine G.bipush (v := (10 : Int32)) C dX10_numberHere_58 (by decide) ?_
    refine G.iload C 4 dX10_numberHere_60 rfl ?_
    refine G.imul C dX10_numberHere_62 ?_
    refine G.aload_n C 0 dX10_numberHere_63 rfl rfl ?_
    refine G.aload_n C 0 dX10_numberHere_64 rfl rfl ?_
    refine G.getI (k := 4) C k_X10 (sm_67 hE) rfl (by decide) tg_1435 dX10_numberHere_65 ?_
    obtain ⟨v_19, hv_18, h⟩ := bd_ex h
    refine G.callV (rest := [.int ((10 : Int32) * x4)]) C (s_X10_byteAt_67 hE  hv_18) ⟨tg_1608, tg_103, ok_X10_byteAt, Nat.le_of_ble_eq_true rfl, Nat.le_of_ble_eq_true rfl⟩ tg_1605 tg_1607 tg_48 (sm_67 hE) rfl rfl (Nat.le_of_ble_eq_true rfl) dX10_numberHere_68 ⟨Nat.le_refl 0, Nat.le_refl 0⟩ ?_
    refine G.iadd C dX10_numberHere_71 ?_
    refine G.bipush (v := (48 : Int32)) C dX10_numberHere_72 (by decide) ?_
    refine G.isub C dX10_numberHere_74 ?_
    obtain ⟨x4_20, ex4_20, h⟩ := ltv_ex h
    refine G.istore (L' := [(4, .int x4_20), (0, .ref (eA E 67)), (1, .int x1), (2, .int x2), (3, .int x3)]) C dX10_numberHere_75 ex4_20 (by decide) rfl ?_
    refine G.iload C 0 dX10_numberHere_77 rfl ?_
    refine G.ldc C tg_1647 dX10_numberHere_79 ?_
    refine G.icmp_le (tgt := 89) C dX10_numberHere_81 (by decide) (fun hc => ?_) (fun hc => ?_)
    · have h := it_t h hc
      refine G.iload C 0 dX10_numberHere_89 rfl ?_
      refine G.istore (L' := [(4, .int x4_20), (0, .ref (eA E 67)), (1, .int x1), (2, .int x2), (3, .int x3)]) C dX10_numberHere_91 rfl (by decide) rfl ?_
      refine G.aload_n C 1 dX10_numberHere_93 rfl rfl ?_
      refine G.dup C dX10_numberHere_94 rfl ?_
      refine G.getI (k := 4) C k_X10 (sm_67 hE) rfl (by decide) tg_1435 dX10_numberHere_95 ?_
      refine G.iconst (v := (1 : Int32)) C dX10_numberHere_98 (by decide) ?_
      refine G.iadd C dX10_numberHere_99 ?_
      obtain ⟨M_21, eM_21, h⟩ := ltv_ex h
      refine G.putI (k := 4) C k_X10 (sm_67 hE) rfl (by decide) tg_1435 rfl rfl dX10_numberHere_100 eM_21 ?_
      refine G.goto (tgt := 44) C dX10_numberHere_103 (by decide) ?_
      exact G.sub [1, 2, 3, 4, 0] rfl (hk_44 _ _ _ _ _  h)
    · have h := it_f h hc
      refine G.ldc C tg_1647 dX10_numberHere_84 ?_
      refine G.goto (tgt := 91) C dX10_numberHere_86 (by decide) ?_
      refine G.istore (L' := [(4, .int (100000 : Int32)), (0, .ref (eA E 67)), (1, .int x1), (2, .int x2), (3, .int x3)]) C dX10_numberHere_91 rfl (by decide) rfl ?_
      refine G.aload_n C 1 dX10_numberHere_93 rfl rfl ?_
      refine G.dup C dX10_numberHere_94 rfl ?_
      refine G.getI (k := 4) C k_X10 (sm_67 hE) rfl (by decide) tg_1435 dX10_numberHere_95 ?_
      refine G.iconst (v := (1 : Int32)) C dX10_numberHere_98 (by decide) ?_
      refine G.iadd C dX10_numberHere_99 ?_
      obtain ⟨M_22, eM_22, h⟩ := ltv_ex h
      refine G.putI (k := 4) C k_X10 (sm_67 hE) rfl (by decide) tg_1435 rfl rfl dX10_numberHere_100 eM_22 ?_
      refine G.goto (tgt := 44) C dX10_numberHere_103 (by decide) ?_
      exact G.sub [1, 2, 3, 4, 0] rfl (hk_44 _ _ _ _ _  h)
def b_X10_numberHere_67_44 : Nat → Int32 → Int32 → Int32 → Int32 → Mm → Option (Int32 × Mm)
  | 0, _, _, _, _, _ => none
  | n + 1, x1, x2, x3, x4, M => bb_X10_numberHere_67_44 (b_X10_numberHere_67_44 n) x1 x2 x3 x4 M
set_option maxHeartbeats 4000000 in
theorem g_X10_numberHere_67_44  {n : Nat} {x1 : Int32} {x2 : Int32} {x3 : Int32} {x4 : Int32} {M : Mm} {v : Int32} {M' : Mm} (hE : Has shM (eH E)) (C : Cx RX10 cX10_numberHere 5 p (rmD 3) s m args meth c E) (hr : meth.sig.returnType = (some .int)) (h : b_X10_numberHere_67_44 n x1 x2 x3 x4 M = some (v, M')) : G p l e (rmD 3) s m args below meth c E 5 0 0 (QR below args s E 0 0 (some (.int v)) M') 44 [(0, .ref (eA E 67)), (1, .int x1), (2, .int x2), (3, .int x3), (4, .int x4)] [] M := by
  induction n generalizing x1 x2 x3 x4 M with
  | zero => cases h
  | succ n ih => exact gb_X10_numberHere_67_44 hE C hr (fun _ _ _ _ _ => ih)  h
def bb_X10_numberHere_67_0 (x1 : Int32) (x2 : Int32) (M : Mm) : Option (Int32 × Mm) := if (M.1 67 5) = 0 then (bd (f_X10_blanks_67 M) fun M_2 => ltv (M_2.1 67 4) fun x3_3 => bd (f_X10_byteAt_67 (M_2.1 67 4) M_2) fun v_5 => bd (f_X10_isDigit v_5) fun v_7 => if v_7 = 0 then (bd (f_X10_wrong_67 (1 : Int32) (M_2.1 67 4) M_2) fun M_9 => b_X10_numberHere_67_44 FU x1 x2 x3_3 (0 : Int32) M_9) else (b_X10_numberHere_67_44 FU x1 x2 x3_3 (0 : Int32) M_2)) else (some ((0 : Int32), M))
set_option maxHeartbeats 4000000 in
set_option maxRecDepth 100000 in
theorem gb_X10_numberHere_67_0  {x1 : Int32} {x2 : Int32} {M : Mm} {v : Int32} {M' : Mm} (hE : Has shM (eH E)) (C : Cx RX10 cX10_numberHere 5 p (rmD 3) s m args meth c E) (hr : meth.sig.returnType = (some .int)) (h : bb_X10_numberHere_67_0 x1 x2 M = some (v, M')) : G p l e (rmD 3) s m args below meth c E 5 0 0 (QR below args s E 0 0 (some (.int v)) M') 0 [(0, .ref (eA E 67)), (1, .int x1), (2, .int x2)] [] M := by
  unfold bb_X10_numberHere_67_0 at h
  refine G.aload_n C 0 dX10_numberHere_0 rfl rfl ?_
  refine G.getI (k := 5) C k_X10 (sm_67 hE) rfl (by decide) tg_1436 dX10_numberHere_1 ?_
  refine G.if_eq (tgt := 9) C dX10_numberHere_4 (by decide) (fun hc => ?_) (fun hc => ?_)
  · have h := it_t h hc
    refine G.aload_n C 0 dX10_numberHere_9 rfl rfl ?_
    obtain ⟨M_2, hv_1, h⟩ := bd_ex h
    refine G.callV (rest := []) C (s_X10_blanks_67 hE  hv_1) ⟨tg_1604, tg_103, ok_X10_blanks, Nat.le_of_ble_eq_true rfl, Nat.le_of_ble_eq_true rfl⟩ tg_1601 tg_1603 tg_47 (sm_67 hE) rfl rfl (Nat.le_of_ble_eq_true rfl) dX10_numberHere_10 ⟨Nat.le_refl 0, Nat.le_refl 0⟩ ?_
    refine G.aload_n C 0 dX10_numberHere_13 rfl rfl ?_
    refine G.getI (k := 4) C k_X10 (sm_67 hE) rfl (by decide) tg_1435 dX10_numberHere_14 ?_
    obtain ⟨x3_3, ex3_3, h⟩ := ltv_ex h
    refine G.istore_n (L' := [(3, .int x3_3), (0, .ref (eA E 67)), (1, .int x1), (2, .int x2)]) C dX10_numberHere_17 rfl ex3_3 (by decide) rfl ?_
    refine G.iconst (v := (0 : Int32)) C dX10_numberHere_18 (by decide) ?_
    refine G.istore (L' := [(4, .int (0 : Int32)), (3, .int x3_3), (0, .ref (eA E 67)), (1, .int x1), (2, .int x2)]) C dX10_numberHere_19 rfl (by decide) rfl ?_
    refine G.aload_n C 2 dX10_numberHere_21 rfl rfl ?_
    refine G.aload_n C 2 dX10_numberHere_22 rfl rfl ?_
    refine G.getI (k := 4) C k_X10 (sm_67 hE) rfl (by decide) tg_1435 dX10_numberHere_23 ?_
    obtain ⟨v_5, hv_4, h⟩ := bd_ex h
    refine G.callV (rest := []) C (s_X10_byteAt_67 hE  hv_4) ⟨tg_1608, tg_103, ok_X10_byteAt, Nat.le_of_ble_eq_true rfl, Nat.le_of_ble_eq_true rfl⟩ tg_1605 tg_1607 tg_48 (sm_67 hE) rfl rfl (Nat.le_of_ble_eq_true rfl) dX10_numberHere_26 ⟨Nat.le_refl 0, Nat.le_refl 0⟩ ?_
    obtain ⟨v_7, hv_6, h⟩ := bd_ex h
    refine G.callS (rest := []) C (s_X10_isDigit  hv_6) ⟨tg_1646, tg_103, ok_X10_isDigit, Nat.le_of_ble_eq_true rfl, Nat.le_of_ble_eq_true rfl⟩ tg_1644 tg_1645 rfl (Nat.le_of_ble_eq_true rfl) dX10_numberHere_29 ⟨Nat.le_refl 0, Nat.le_refl 0⟩ ?_
    refine G.if_ne (tgt := 44) C dX10_numberHere_32 (by decide) (fun hc => ?_) (fun hc => ?_)
    · have h := it_f h hc
      exact G.sub [2, 3, 4, 1, 0] rfl (g_X10_numberHere_67_44 hE C hr  h)
    · have h := it_t h hc
      refine G.aload_n C 2 dX10_numberHere_35 rfl rfl ?_
      refine G.iconst (v := (1 : Int32)) C dX10_numberHere_36 (by decide) ?_
      refine G.aload_n C 2 dX10_numberHere_37 rfl rfl ?_
      refine G.getI (k := 4) C k_X10 (sm_67 hE) rfl (by decide) tg_1435 dX10_numberHere_38 ?_
      obtain ⟨M_9, hv_8, h⟩ := bd_ex h
      refine G.callV (rest := []) C (s_X10_wrong_67 hE  hv_8) ⟨tg_1631, tg_103, ok_X10_wrong, Nat.le_of_ble_eq_true rfl, Nat.le_of_ble_eq_true rfl⟩ tg_1628 tg_1630 tg_53 (sm_67 hE) rfl rfl (Nat.le_of_ble_eq_true rfl) dX10_numberHere_41 ⟨Nat.le_refl 0, Nat.le_refl 0⟩ ?_
      exact G.sub [2, 3, 4, 1, 0] rfl (g_X10_numberHere_67_44 hE C hr  h)
  · have h := it_f h hc
    refine G.iconst (v := (0 : Int32)) C dX10_numberHere_7 (by decide) ?_
    cases h
    exact G.iret C hr dX10_numberHere_8
def f_X10_numberHere_67 (x1 : Int32) (x2 : Int32) (M : Mm) : Option (Int32 × Mm) := bb_X10_numberHere_67_0 x1 x2 M
theorem s_X10_numberHere_67 {l : Launch} {E : Ev} {x1 : Int32} {x2 : Int32} {M : Mm} {v : Int32} {M' : Mm} (hE : Has shM (eH E)) (h : f_X10_numberHere_67 x1 x2 M = some (v, M')) : MetA l yX10_numberHere cX10_numberHere 5 (some .int) 3 E [.ref (eA E 67), .int x1, .int x2] M (some (.int v)) M' := by
  refine MetA.of (by decide +kernel) (Nat.le_of_ble_eq_true rfl) ?_
  intro p e s m below meth c C hr hnm
  exact G.sub [0, 1, 2] rfl (gb_X10_numberHere_67_0 hE C hr  h)
def bb_X10_readsSpread_67_0  (M : Mm) : Option Mm := bd2 (f_X10_numberHere_67 (1 : Int32) (9 : Int32) M) fun v_3 M_2 => bd2 (f_X10_numberHere_67 (0 : Int32) (16 : Int32) M_2) fun v_6 M_5 => if (M_5.1 67 5) = 0 then (gd (inb v_3 10) (ltv (wI M_5 89 (ix v_3) v_6) fun M_8 => some M_8)) else (some M_5)
set_option maxHeartbeats 4000000 in
set_option maxRecDepth 100000 in
theorem gb_X10_readsSpread_67_0   {M : Mm} {M' : Mm} (hE : Has shM (eH E)) (C : Cx RX10 cX10_readsSpread 3 p (rmD 4) s m args meth c E) (hr : meth.sig.returnType = none) (h : bb_X10_readsSpread_67_0 M = some M') : G p l e (rmD 4) s m args below meth c E 3 0 0 (QR below args s E 0 0 none M') 0 [(0, .ref (eA E 67))] [] M := by
  unfold bb_X10_readsSpread_67_0 at h
  refine G.aload_n C 0 dX10_readsSpread_0 rfl rfl ?_
  refine G.iconst (v := (1 : Int32)) C dX10_readsSpread_1 (by decide) ?_
  refine G.bipush (v := (9 : Int32)) C dX10_readsSpread_2 (by decide) ?_
  obtain ⟨v_3, M_2, hv_1, h⟩ := bd2_ex h
  refine G.callV (rest := []) C (s_X10_numberHere_67 hE  hv_1) ⟨tg_1643, tg_103, ok_X10_numberHere, Nat.le_of_ble_eq_true rfl, Nat.le_of_ble_eq_true rfl⟩ tg_1640 tg_1642 tg_56 (sm_67 hE) rfl rfl (Nat.le_of_ble_eq_true rfl) dX10_readsSpread_4 ⟨Nat.le_refl 0, Nat.le_refl 0⟩ ?_
  refine G.istore_n (L' := [(1, .int v_3), (0, .ref (eA E 67))]) C dX10_readsSpread_7 rfl rfl (by decide) rfl ?_
  refine G.aload_n C 1 dX10_readsSpread_8 rfl rfl ?_
  refine G.iconst (v := (0 : Int32)) C dX10_readsSpread_9 (by decide) ?_
  refine G.bipush (v := (16 : Int32)) C dX10_readsSpread_10 (by decide) ?_
  obtain ⟨v_6, M_5, hv_4, h⟩ := bd2_ex h
  refine G.callV (rest := []) C (s_X10_numberHere_67 hE  hv_4) ⟨tg_1643, tg_103, ok_X10_numberHere, Nat.le_of_ble_eq_true rfl, Nat.le_of_ble_eq_true rfl⟩ tg_1640 tg_1642 tg_56 (sm_67 hE) rfl rfl (Nat.le_of_ble_eq_true rfl) dX10_readsSpread_12 ⟨Nat.le_refl 0, Nat.le_refl 0⟩ ?_
  refine G.istore_n (L' := [(2, .int v_6), (1, .int v_3), (0, .ref (eA E 67))]) C dX10_readsSpread_15 rfl rfl (by decide) rfl ?_
  refine G.aload_n C 2 dX10_readsSpread_16 rfl rfl ?_
  refine G.getI (k := 5) C k_X10 (sm_67 hE) rfl (by decide) tg_1436 dX10_readsSpread_17 ?_
  refine G.if_ne (tgt := 30) C dX10_readsSpread_20 (by decide) (fun hc => ?_) (fun hc => ?_)
  · have h := it_f h hc
    cases h
    exact G.vret C hr dX10_readsSpread_30
  · have h := it_t h hc
    refine G.aload_n C 2 dX10_readsSpread_23 rfl rfl ?_
    refine G.getR (k := 17) C k_X10 (sm_67 hE) rfl (by decide) tg_1448 dX10_readsSpread_24 ?_
    refine G.iload_n C 1 dX10_readsSpread_27 rfl rfl ?_
    refine G.iload_n C 0 dX10_readsSpread_28 rfl rfl ?_
    obtain ⟨hg_7, h⟩ := gd_ex h
    obtain ⟨M_8, eM_8, h⟩ := ltv_ex h
    refine G.sI (j := (ix v_3)) C (sm_89 hE) hg_7 rfl dX10_readsSpread_29 eM_8 ?_
    cases h
    exact G.vret C hr dX10_readsSpread_30
def f_X10_readsSpread_67  (M : Mm) : Option Mm := bb_X10_readsSpread_67_0 M
theorem s_X10_readsSpread_67 {l : Launch} {E : Ev}  {M : Mm} {M' : Mm} (hE : Has shM (eH E)) (h : f_X10_readsSpread_67 M = some M') : MetA l yX10_readsSpread cX10_readsSpread 3 none 4 E [.ref (eA E 67)] M none M' := by
  refine MetA.of (by decide +kernel) (Nat.le_of_ble_eq_true rfl) ?_
  intro p e s m below meth c C hr hnm
  exact G.sub [0] rfl (gb_X10_readsSpread_67_0 hE C hr  h)
def bb_X10_sign_67_0 (x1 : Int32) (M : Mm) : Option Mm := if (M.1 67 5) = 0 then (bd (f_X10_blanks_67 M) fun M_2 => bd (f_X10_byteAt_67 (M_2.1 67 4) M_2) fun v_4 => if v_4 = x1 then (ltv (wI M_2 67 4 ((M_2.1 67 4) + (1 : Int32))) fun M_7 => some M_7) else (bd (f_X10_wrong_67 (1 : Int32) (M_2.1 67 4) M_2) fun M_6 => some M_6)) else (some M)
set_option maxHeartbeats 4000000 in
set_option maxRecDepth 100000 in
theorem gb_X10_sign_67_0  {x1 : Int32} {M : Mm} {M' : Mm} (hE : Has shM (eH E)) (C : Cx RX10 cX10_sign 2 p (rmD 3) s m args meth c E) (hr : meth.sig.returnType = none) (h : bb_X10_sign_67_0 x1 M = some M') : G p l e (rmD 3) s m args below meth c E 2 0 0 (QR below args s E 0 0 none M') 0 [(0, .ref (eA E 67)), (1, .int x1)] [] M := by
  unfold bb_X10_sign_67_0 at h
  refine G.aload_n C 0 dX10_sign_0 rfl rfl ?_
  refine G.getI (k := 5) C k_X10 (sm_67 hE) rfl (by decide) tg_1436 dX10_sign_1 ?_
  refine G.if_eq (tgt := 8) C dX10_sign_4 (by decide) (fun hc => ?_) (fun hc => ?_)
  · have h := it_t h hc
    refine G.aload_n C 0 dX10_sign_8 rfl rfl ?_
    obtain ⟨M_2, hv_1, h⟩ := bd_ex h
    refine G.callV (rest := []) C (s_X10_blanks_67 hE  hv_1) ⟨tg_1604, tg_103, ok_X10_blanks, Nat.le_of_ble_eq_true rfl, Nat.le_of_ble_eq_true rfl⟩ tg_1601 tg_1603 tg_47 (sm_67 hE) rfl rfl (Nat.le_of_ble_eq_true rfl) dX10_sign_9 ⟨Nat.le_refl 0, Nat.le_refl 0⟩ ?_
    refine G.aload_n C 0 dX10_sign_12 rfl rfl ?_
    refine G.aload_n C 0 dX10_sign_13 rfl rfl ?_
    refine G.getI (k := 4) C k_X10 (sm_67 hE) rfl (by decide) tg_1435 dX10_sign_14 ?_
    obtain ⟨v_4, hv_3, h⟩ := bd_ex h
    refine G.callV (rest := []) C (s_X10_byteAt_67 hE  hv_3) ⟨tg_1608, tg_103, ok_X10_byteAt, Nat.le_of_ble_eq_true rfl, Nat.le_of_ble_eq_true rfl⟩ tg_1605 tg_1607 tg_48 (sm_67 hE) rfl rfl (Nat.le_of_ble_eq_true rfl) dX10_sign_17 ⟨Nat.le_refl 0, Nat.le_refl 0⟩ ?_
    refine G.iload_n C 1 dX10_sign_20 rfl rfl ?_
    refine G.icmp_ne (tgt := 37) C dX10_sign_21 (by decide) (fun hc => ?_) (fun hc => ?_)
    · have h := it_f h hc
      refine G.aload_n C 0 dX10_sign_37 rfl rfl ?_
      refine G.iconst (v := (1 : Int32)) C dX10_sign_38 (by decide) ?_
      refine G.aload_n C 0 dX10_sign_39 rfl rfl ?_
      refine G.getI (k := 4) C k_X10 (sm_67 hE) rfl (by decide) tg_1435 dX10_sign_40 ?_
      obtain ⟨M_6, hv_5, h⟩ := bd_ex h
      refine G.callV (rest := []) C (s_X10_wrong_67 hE  hv_5) ⟨tg_1631, tg_103, ok_X10_wrong, Nat.le_of_ble_eq_true rfl, Nat.le_of_ble_eq_true rfl⟩ tg_1628 tg_1630 tg_53 (sm_67 hE) rfl rfl (Nat.le_of_ble_eq_true rfl) dX10_sign_43 ⟨Nat.le_refl 0, Nat.le_refl 0⟩ ?_
      cases h
      exact G.vret C hr dX10_sign_46
    · have h := it_t h hc
      refine G.aload_n C 0 dX10_sign_24 rfl rfl ?_
      refine G.dup C dX10_sign_25 rfl ?_
      refine G.getI (k := 4) C k_X10 (sm_67 hE) rfl (by decide) tg_1435 dX10_sign_26 ?_
      refine G.iconst (v := (1 : Int32)) C dX10_sign_29 (by decide) ?_
      refine G.iadd C dX10_sign_30 ?_
      obtain ⟨M_7, eM_7, h⟩ := ltv_ex h
      refine G.putI (k := 4) C k_X10 (sm_67 hE) rfl (by decide) tg_1435 rfl rfl dX10_sign_31 eM_7 ?_
      refine G.goto (tgt := 46) C dX10_sign_34 (by decide) ?_
      cases h
      exact G.vret C hr dX10_sign_46
  · have h := it_f h hc
    cases h
    exact G.vret C hr dX10_sign_7
def f_X10_sign_67 (x1 : Int32) (M : Mm) : Option Mm := bb_X10_sign_67_0 x1 M
theorem s_X10_sign_67 {l : Launch} {E : Ev} {x1 : Int32} {M : Mm} {M' : Mm} (hE : Has shM (eH E)) (h : f_X10_sign_67 x1 M = some M') : MetA l yX10_sign cX10_sign 2 none 3 E [.ref (eA E 67), .int x1] M none M' := by
  refine MetA.of (by decide +kernel) (Nat.le_of_ble_eq_true rfl) ?_
  intro p e s m below meth c C hr hnm
  exact G.sub [0, 1] rfl (gb_X10_sign_67_0 hE C hr  h)
def bb_X10_readsWord_67_89 (k_36 : Int32 → Int32 → Int32 → Mm → Option Mm) (x1 : Int32) (x2 : Int32) (x4 : Int32) (s0 : Int32) (M : Mm) : Option Mm := if (8 : Int32) ≤ x2 then (ltv (x2 + (1 : Int32)) fun x2_22 => ltv (wI M 67 4 ((M.1 67 4) + (1 : Int32))) fun M_23 => k_36 x1 x2_22 s0 M_23) else (gd (inb (M.1 69 1) 6) (gd (inb x2 8) (ltv (wI M (74 + ix (M.1 69 1)) (ix x2) x4) fun M_27 => ltv (x2 + (1 : Int32)) fun x2_28 => ltv (wI M_27 67 4 ((M_27.1 67 4) + (1 : Int32))) fun M_29 => k_36 x1 x2_28 s0 M_29)))
set_option maxHeartbeats 4000000 in
set_option maxRecDepth 100000 in
theorem gb_X10_readsWord_67_89  {k_36 : Int32 → Int32 → Int32 → Mm → Option Mm} {x1 : Int32} {x2 : Int32} {x4 : Int32} {s0 : Int32} {M : Mm} {M' : Mm} (hE : Has shM (eH E)) (C : Cx RX10 cX10_readsWord 5 p (rmD 3) s m args meth c E) (hr : meth.sig.returnType = none) (hk_36 : ∀ (x1 : Int32) (x2 : Int32) (x3 : Int32) (M : Mm), k_36 x1 x2 x3 M = some M' → G p l e (rmD 3) s m args below meth c E 5 0 0 (QR below args s E 0 0 none M') 36 [(0, .ref (eA E 67)), (1, .int x1), (2, .int x2), (3, .int x3)] [] M) (h : bb_X10_readsWord_67_89 k_36 x1 x2 x4 s0 M = some M') : G p l e (rmD 3) s m args below meth c E 5 0 0 (QR below args s E 0 0 none M') 89 [(0, .ref (eA E 67)), (1, .int x1), (2, .int x2), (4, .int x4)] [.int s0] M := by
  unfold bb_X10_readsWord_67_89 at h
  refine G.istore_n (L' := [(3, .int s0), (0, .ref (eA E 67)), (1, .int x1), (2, .int x2), (4, .int x4)]) C dX10_readsWord_89 rfl rfl (by decide) rfl ?_
  refine G.iload_n C 3 dX10_readsWord_90 rfl rfl ?_
  refine G.bipush (v := (8 : Int32)) C dX10_readsWord_91 (by decide) ?_
  refine G.icmp_ge (tgt := 111) C dX10_readsWord_93 (by decide) (fun hc => ?_) (fun hc => ?_)
  · have h := it_t h hc
    obtain ⟨x2_22, ex2_22, h⟩ := ltv_ex h
    refine G.iinc (L' := [(2, .int x2_22), (3, .int s0), (0, .ref (eA E 67)), (1, .int x1), (4, .int x4)]) C 3 dX10_readsWord_111 rfl (ex2_22.trans rfl) (by decide) rfl ?_
    refine G.aload_n C 2 dX10_readsWord_114 rfl rfl ?_
    refine G.dup C dX10_readsWord_115 rfl ?_
    refine G.getI (k := 4) C k_X10 (sm_67 hE) rfl (by decide) tg_1435 dX10_readsWord_116 ?_
    refine G.iconst (v := (1 : Int32)) C dX10_readsWord_119 (by decide) ?_
    refine G.iadd C dX10_readsWord_120 ?_
    obtain ⟨M_23, eM_23, h⟩ := ltv_ex h
    refine G.putI (k := 4) C k_X10 (sm_67 hE) rfl (by decide) tg_1435 rfl rfl dX10_readsWord_121 eM_23 ?_
    refine G.goto (tgt := 36) C dX10_readsWord_124 (by decide) ?_
    exact G.sub [2, 3, 0, 1] rfl (hk_36 _ _ _ _  h)
  · have h := it_f h hc
    refine G.aload_n C 1 dX10_readsWord_96 rfl rfl ?_
    refine G.getR (k := 13) C k_X10 (sm_67 hE) rfl (by decide) tg_1444 dX10_readsWord_97 ?_
    refine G.aload_n C 1 dX10_readsWord_100 rfl rfl ?_
    refine G.getR (k := 9) C k_X10 (sm_67 hE) rfl (by decide) tg_1440 dX10_readsWord_101 ?_
    refine G.iconst (v := (1 : Int32)) C dX10_readsWord_104 (by decide) ?_
    refine G.aI (j := 1) C (sm_69 hE) (by decide) (by decide) dX10_readsWord_105 ?_
    obtain ⟨hg_24, h⟩ := gd_ex h
    refine aald_q (k := 1) (t := 74 + ix (M.1 69 1)) (ty := .array .int) C (sm_73 hE) rfl rfl hg_24 (rowE_73 hg_24) dX10_readsWord_106 ?_
    have hq_25 := rowS_73 hE hg_24
    refine G.iload_n C 3 dX10_readsWord_107 rfl rfl ?_
    refine G.iload C 4 dX10_readsWord_108 rfl ?_
    obtain ⟨hg_26, h⟩ := gd_ex h
    obtain ⟨M_27, eM_27, h⟩ := ltv_ex h
    refine G.sI (j := (ix x2)) C (hq_25) hg_26 rfl dX10_readsWord_110 eM_27 ?_
    obtain ⟨x2_28, ex2_28, h⟩ := ltv_ex h
    refine G.iinc (L' := [(2, .int x2_28), (3, .int s0), (0, .ref (eA E 67)), (1, .int x1), (4, .int x4)]) C 3 dX10_readsWord_111 rfl (ex2_28.trans rfl) (by decide) rfl ?_
    refine G.aload_n C 2 dX10_readsWord_114 rfl rfl ?_
    refine G.dup C dX10_readsWord_115 rfl ?_
    refine G.getI (k := 4) C k_X10 (sm_67 hE) rfl (by decide) tg_1435 dX10_readsWord_116 ?_
    refine G.iconst (v := (1 : Int32)) C dX10_readsWord_119 (by decide) ?_
    refine G.iadd C dX10_readsWord_120 ?_
    obtain ⟨M_29, eM_29, h⟩ := ltv_ex h
    refine G.putI (k := 4) C k_X10 (sm_67 hE) rfl (by decide) tg_1435 rfl rfl dX10_readsWord_121 eM_29 ?_
    refine G.goto (tgt := 36) C dX10_readsWord_124 (by decide) ?_
    exact G.sub [2, 3, 0, 1] rfl (hk_36 _ _ _ _  h)
def bb_X10_readsWord_67_88 (k_36 : Int32 → Int32 → Int32 → Mm → Option Mm) (x1 : Int32) (x2 : Int32) (x4 : Int32) (M : Mm) : Option Mm := bb_X10_readsWord_67_89 k_36 x1 x2 x4 (0 : Int32) M
set_option maxHeartbeats 4000000 in
set_option maxRecDepth 100000 in
theorem gb_X10_readsWord_67_88  {k_36 : Int32 → Int32 → Int32 → Mm → Option Mm} {x1 : Int32} {x2 : Int32} {x4 : Int32} {M : Mm} {M' : Mm} (hE : Has shM (eH E)) (C : Cx RX10 cX10_readsWord 5 p (rmD 3) s m args meth c E) (hr : meth.sig.returnType = none) (hk_36 : ∀ (x1 : Int32) (x2 : Int32) (x3 : Int32) (M : Mm), k_36 x1 x2 x3 M = some M' → G p l e (rmD 3) s m args below meth c E 5 0 0 (QR below args s E 0 0 none M') 36 [(0, .ref (eA E 67)), (1, .int x1), (2, .int x2), (3, .int x3)] [] M) (h : bb_X10_readsWord_67_88 k_36 x1 x2 x4 M = some M') : G p l e (rmD 3) s m args below meth c E 5 0 0 (QR below args s E 0 0 none M') 88 [(0, .ref (eA E 67)), (1, .int x1), (2, .int x2), (4, .int x4)] [] M := by
  unfold bb_X10_readsWord_67_88 at h
  refine G.iconst (v := (0 : Int32)) C dX10_readsWord_88 (by decide) ?_
  exact G.sub [0, 1, 2, 3] rfl (gb_X10_readsWord_67_89 hE C hr hk_36  h)
def bb_X10_readsWord_67_137 (x2 : Int32) (M : Mm) : Option Mm := if (M.1 67 5) = 0 then (gd (inb (M.1 69 1) 6) (ltv (wI M 87 (ix (M.1 69 1)) x2) fun M_20 => ltv (wI M_20 69 1 ((M_20.1 69 1) + (1 : Int32))) fun M_21 => some M_21)) else (some M)
set_option maxHeartbeats 4000000 in
set_option maxRecDepth 100000 in
theorem gb_X10_readsWord_67_137  {x2 : Int32} {M : Mm} {M' : Mm} (hE : Has shM (eH E)) (C : Cx RX10 cX10_readsWord 5 p (rmD 3) s m args meth c E) (hr : meth.sig.returnType = none) (h : bb_X10_readsWord_67_137 x2 M = some M') : G p l e (rmD 3) s m args below meth c E 5 0 0 (QR below args s E 0 0 none M') 137 [(0, .ref (eA E 67)), (2, .int x2)] [] M := by
  unfold bb_X10_readsWord_67_137 at h
  refine G.aload_n C 0 dX10_readsWord_137 rfl rfl ?_
  refine G.getI (k := 5) C k_X10 (sm_67 hE) rfl (by decide) tg_1436 dX10_readsWord_138 ?_
  refine G.if_eq (tgt := 145) C dX10_readsWord_141 (by decide) (fun hc => ?_) (fun hc => ?_)
  · have h := it_t h hc
    refine G.aload_n C 0 dX10_readsWord_145 rfl rfl ?_
    refine G.getR (k := 15) C k_X10 (sm_67 hE) rfl (by decide) tg_1446 dX10_readsWord_146 ?_
    refine G.aload_n C 0 dX10_readsWord_149 rfl rfl ?_
    refine G.getR (k := 9) C k_X10 (sm_67 hE) rfl (by decide) tg_1440 dX10_readsWord_150 ?_
    refine G.iconst (v := (1 : Int32)) C dX10_readsWord_153 (by decide) ?_
    refine G.aI (j := 1) C (sm_69 hE) (by decide) (by decide) dX10_readsWord_154 ?_
    refine G.iload_n C 1 dX10_readsWord_155 rfl rfl ?_
    obtain ⟨hg_19, h⟩ := gd_ex h
    obtain ⟨M_20, eM_20, h⟩ := ltv_ex h
    refine G.sI (j := (ix (M.1 69 1))) C (sm_87 hE) hg_19 rfl dX10_readsWord_156 eM_20 ?_
    refine G.aload_n C 0 dX10_readsWord_157 rfl rfl ?_
    refine G.getR (k := 9) C k_X10 (sm_67 hE) rfl (by decide) tg_1440 dX10_readsWord_158 ?_
    refine G.iconst (v := (1 : Int32)) C dX10_readsWord_161 (by decide) ?_
    refine G.dup2_11 C dX10_readsWord_162 rfl rfl ?_
    refine G.aI (j := 1) C (sm_69 hE) (by decide) (by decide) dX10_readsWord_163 ?_
    refine G.iconst (v := (1 : Int32)) C dX10_readsWord_164 (by decide) ?_
    refine G.iadd C dX10_readsWord_165 ?_
    obtain ⟨M_21, eM_21, h⟩ := ltv_ex h
    refine G.sI (j := 1) C (sm_69 hE) (by decide) (by decide) dX10_readsWord_166 eM_21 ?_
    cases h
    exact G.vret C hr dX10_readsWord_167
  · have h := it_f h hc
    cases h
    exact G.vret C hr dX10_readsWord_144
def bb_X10_readsWord_67_36 (k_36 : Int32 → Int32 → Int32 → Mm → Option Mm) (x1 : Int32) (x2 : Int32) (x3 : Int32) (M : Mm) : Option Mm := bd (f_X10_byteAt_67 (M.1 67 4) M) fun v_11 => bd (f_X10_isDigit v_11) fun v_13 => if v_13 = 0 then (if x3 = 0 then (bd (f_X10_wrong_67 (2 : Int32) x1 M) fun M_15 => bb_X10_readsWord_67_137 x2 M_15) else (bb_X10_readsWord_67_137 x2 M)) else (bd (f_X10_byteAt_67 (M.1 67 4) M) fun v_17 => ltv (v_17 - (48 : Int32)) fun x4_18 => if x3 = 0 then (bb_X10_readsWord_67_88 k_36 x1 x2 x4_18 M) else (if (8 : Int32) ≤ x2 then (bb_X10_readsWord_67_88 k_36 x1 x2 x4_18 M) else (if (M.1 69 0) ≤ x4_18 then (bb_X10_readsWord_67_88 k_36 x1 x2 x4_18 M) else (bb_X10_readsWord_67_89 k_36 x1 x2 x4_18 (1 : Int32) M))))
set_option maxHeartbeats 4000000 in
set_option maxRecDepth 100000 in
theorem gb_X10_readsWord_67_36  {k_36 : Int32 → Int32 → Int32 → Mm → Option Mm} {x1 : Int32} {x2 : Int32} {x3 : Int32} {M : Mm} {M' : Mm} (hE : Has shM (eH E)) (C : Cx RX10 cX10_readsWord 5 p (rmD 3) s m args meth c E) (hr : meth.sig.returnType = none) (hk_36 : ∀ (x1 : Int32) (x2 : Int32) (x3 : Int32) (M : Mm), k_36 x1 x2 x3 M = some M' → G p l e (rmD 3) s m args below meth c E 5 0 0 (QR below args s E 0 0 none M') 36 [(0, .ref (eA E 67)), (1, .int x1), (2, .int x2), (3, .int x3)] [] M) (h : bb_X10_readsWord_67_36 k_36 x1 x2 x3 M = some M') : G p l e (rmD 3) s m args below meth c E 5 0 0 (QR below args s E 0 0 none M') 36 [(0, .ref (eA E 67)), (1, .int x1), (2, .int x2), (3, .int x3)] [] M := by
  unfold bb_X10_readsWord_67_36 at h
  refine G.aload_n C 0 dX10_readsWord_36 rfl rfl ?_
  refine G.aload_n C 0 dX10_readsWord_37 rfl rfl ?_
  refine G.getI (k := 4) C k_X10 (sm_67 hE) rfl (by decide) tg_1435 dX10_readsWord_38 ?_
  obtain ⟨v_11, hv_10, h⟩ := bd_ex h
  refine G.callV (rest := []) C (s_X10_byteAt_67 hE  hv_10) ⟨tg_1608, tg_103, ok_X10_byteAt, Nat.le_of_ble_eq_true rfl, Nat.le_of_ble_eq_true rfl⟩ tg_1605 tg_1607 tg_48 (sm_67 hE) rfl rfl (Nat.le_of_ble_eq_true rfl) dX10_readsWord_41 ⟨Nat.le_refl 0, Nat.le_refl 0⟩ ?_
  obtain ⟨v_13, hv_12, h⟩ := bd_ex h
  refine G.callS (rest := []) C (s_X10_isDigit  hv_12) ⟨tg_1646, tg_103, ok_X10_isDigit, Nat.le_of_ble_eq_true rfl, Nat.le_of_ble_eq_true rfl⟩ tg_1644 tg_1645 rfl (Nat.le_of_ble_eq_true rfl) dX10_readsWord_44 ⟨Nat.le_refl 0, Nat.le_refl 0⟩ ?_
  refine G.if_eq (tgt := 127) C dX10_readsWord_47 (by decide) (fun hc => ?_) (fun hc => ?_)
  · have h := it_t h hc
    refine G.iload_n C 3 dX10_readsWord_127 rfl rfl ?_
    refine G.if_ne (tgt := 137) C dX10_readsWord_128 (by decide) (fun hc => ?_) (fun hc => ?_)
    · have h := it_f h hc
      exact G.sub [0, 2] rfl (gb_X10_readsWord_67_137 hE C hr  h)
    · have h := it_t h hc
      refine G.aload_n C 0 dX10_readsWord_131 rfl rfl ?_
      refine G.iconst (v := (2 : Int32)) C dX10_readsWord_132 (by decide) ?_
      refine G.iload_n C 1 dX10_readsWord_133 rfl rfl ?_
      obtain ⟨M_15, hv_14, h⟩ := bd_ex h
      refine G.callV (rest := []) C (s_X10_wrong_67 hE  hv_14) ⟨tg_1631, tg_103, ok_X10_wrong, Nat.le_of_ble_eq_true rfl, Nat.le_of_ble_eq_true rfl⟩ tg_1628 tg_1630 tg_53 (sm_67 hE) rfl rfl (Nat.le_of_ble_eq_true rfl) dX10_readsWord_134 ⟨Nat.le_refl 0, Nat.le_refl 0⟩ ?_
      exact G.sub [0, 2] rfl (gb_X10_readsWord_67_137 hE C hr  h)
  · have h := it_f h hc
    refine G.aload_n C 0 dX10_readsWord_50 rfl rfl ?_
    refine G.aload_n C 0 dX10_readsWord_51 rfl rfl ?_
    refine G.getI (k := 4) C k_X10 (sm_67 hE) rfl (by decide) tg_1435 dX10_readsWord_52 ?_
    obtain ⟨v_17, hv_16, h⟩ := bd_ex h
    refine G.callV (rest := []) C (s_X10_byteAt_67 hE  hv_16) ⟨tg_1608, tg_103, ok_X10_byteAt, Nat.le_of_ble_eq_true rfl, Nat.le_of_ble_eq_true rfl⟩ tg_1605 tg_1607 tg_48 (sm_67 hE) rfl rfl (Nat.le_of_ble_eq_true rfl) dX10_readsWord_55 ⟨Nat.le_refl 0, Nat.le_refl 0⟩ ?_
    refine G.bipush (v := (48 : Int32)) C dX10_readsWord_58 (by decide) ?_
    refine G.isub C dX10_readsWord_60 ?_
    obtain ⟨x4_18, ex4_18, h⟩ := ltv_ex h
    refine G.istore (L' := [(4, .int x4_18), (0, .ref (eA E 67)), (1, .int x1), (2, .int x2), (3, .int x3)]) C dX10_readsWord_61 ex4_18 (by decide) rfl ?_
    refine G.iload_n C 4 dX10_readsWord_63 rfl rfl ?_
    refine G.if_eq (tgt := 88) C dX10_readsWord_64 (by decide) (fun hc => ?_) (fun hc => ?_)
    · have h := it_t h hc
      exact G.sub [1, 2, 3, 0] rfl (gb_X10_readsWord_67_88 hE C hr hk_36  h)
    · have h := it_f h hc
      refine G.iload_n C 3 dX10_readsWord_67 rfl rfl ?_
      refine G.bipush (v := (8 : Int32)) C dX10_readsWord_68 (by decide) ?_
      refine G.icmp_ge (tgt := 88) C dX10_readsWord_70 (by decide) (fun hc => ?_) (fun hc => ?_)
      · have h := it_t h hc
        exact G.sub [1, 2, 3, 0] rfl (gb_X10_readsWord_67_88 hE C hr hk_36  h)
      · have h := it_f h hc
        refine G.iload C 0 dX10_readsWord_73 rfl ?_
        refine G.aload_n C 1 dX10_readsWord_75 rfl rfl ?_
        refine G.getR (k := 9) C k_X10 (sm_67 hE) rfl (by decide) tg_1440 dX10_readsWord_76 ?_
        refine G.iconst (v := (0 : Int32)) C dX10_readsWord_79 (by decide) ?_
        refine G.aI (j := 0) C (sm_69 hE) (by decide) (by decide) dX10_readsWord_80 ?_
        refine G.icmp_ge (tgt := 88) C dX10_readsWord_81 (by decide) (fun hc => ?_) (fun hc => ?_)
        · have h := it_t h hc
          exact G.sub [1, 2, 3, 0] rfl (gb_X10_readsWord_67_88 hE C hr hk_36  h)
        · have h := it_f h hc
          refine G.iconst (v := (1 : Int32)) C dX10_readsWord_84 (by decide) ?_
          refine G.goto (tgt := 89) C dX10_readsWord_85 (by decide) ?_
          exact G.sub [1, 2, 3, 0] rfl (gb_X10_readsWord_67_89 hE C hr hk_36  h)
def b_X10_readsWord_67_36 : Nat → Int32 → Int32 → Int32 → Mm → Option Mm
  | 0, _, _, _, _ => none
  | n + 1, x1, x2, x3, M => bb_X10_readsWord_67_36 (b_X10_readsWord_67_36 n) x1 x2 x3 M
set_option maxHeartbeats 4000000 in
theorem g_X10_readsWord_67_36  {n : Nat} {x1 : Int32} {x2 : Int32} {x3 : Int32} {M : Mm} {M' : Mm} (hE : Has shM (eH E)) (C : Cx RX10 cX10_readsWord 5 p (rmD 3) s m args meth c E) (hr : meth.sig.returnType = none) (h : b_X10_readsWord_67_36 n x1 x2 x3 M = some M') : G p l e (rmD 3) s m args below meth c E 5 0 0 (QR below args s E 0 0 none M') 36 [(0, .ref (eA E 67)), (1, .int x1), (2, .int x2), (3, .int x3)] [] M := by
  induction n generalizing x1 x2 x3 M with
  | zero => cases h
  | succ n ih => exact gb_X10_readsWord_67_36 hE C hr (fun _ _ _ _ => ih)  h
def bb_X10_readsWord_67_0  (M : Mm) : Option Mm := bd (f_X10_blanks_67 M) fun M_2 => ltv (M_2.1 67 4) fun x1_3 => bd (f_X10_byteAt_67 (M_2.1 67 4) M_2) fun v_5 => bd (f_X10_isDigit v_5) fun v_7 => if v_7 = 0 then (bd (f_X10_wrong_67 (1 : Int32) (M_2.1 67 4) M_2) fun M_9 => b_X10_readsWord_67_36 FU x1_3 (0 : Int32) (1 : Int32) M_9) else (b_X10_readsWord_67_36 FU x1_3 (0 : Int32) (1 : Int32) M_2)
set_option maxHeartbeats 4000000 in
set_option maxRecDepth 100000 in
theorem gb_X10_readsWord_67_0   {M : Mm} {M' : Mm} (hE : Has shM (eH E)) (C : Cx RX10 cX10_readsWord 5 p (rmD 3) s m args meth c E) (hr : meth.sig.returnType = none) (h : bb_X10_readsWord_67_0 M = some M') : G p l e (rmD 3) s m args below meth c E 5 0 0 (QR below args s E 0 0 none M') 0 [(0, .ref (eA E 67))] [] M := by
  unfold bb_X10_readsWord_67_0 at h
  refine G.aload_n C 0 dX10_readsWord_0 rfl rfl ?_
  obtain ⟨M_2, hv_1, h⟩ := bd_ex h
  refine G.callV (rest := []) C (s_X10_blanks_67 hE  hv_1) ⟨tg_1604, tg_103, ok_X10_blanks, Nat.le_of_ble_eq_true rfl, Nat.le_of_ble_eq_true rfl⟩ tg_1601 tg_1603 tg_47 (sm_67 hE) rfl rfl (Nat.le_of_ble_eq_true rfl) dX10_readsWord_1 ⟨Nat.le_refl 0, Nat.le_refl 0⟩ ?_
  refine G.aload_n C 0 dX10_readsWord_4 rfl rfl ?_
  refine G.getI (k := 4) C k_X10 (sm_67 hE) rfl (by decide) tg_1435 dX10_readsWord_5 ?_
  obtain ⟨x1_3, ex1_3, h⟩ := ltv_ex h
  refine G.istore_n (L' := [(1, .int x1_3), (0, .ref (eA E 67))]) C dX10_readsWord_8 rfl ex1_3 (by decide) rfl ?_
  refine G.iconst (v := (0 : Int32)) C dX10_readsWord_9 (by decide) ?_
  refine G.istore_n (L' := [(2, .int (0 : Int32)), (1, .int x1_3), (0, .ref (eA E 67))]) C dX10_readsWord_10 rfl rfl (by decide) rfl ?_
  refine G.iconst (v := (1 : Int32)) C dX10_readsWord_11 (by decide) ?_
  refine G.istore_n (L' := [(3, .int (1 : Int32)), (2, .int (0 : Int32)), (1, .int x1_3), (0, .ref (eA E 67))]) C dX10_readsWord_12 rfl rfl (by decide) rfl ?_
  refine G.aload_n C 3 dX10_readsWord_13 rfl rfl ?_
  refine G.aload_n C 3 dX10_readsWord_14 rfl rfl ?_
  refine G.getI (k := 4) C k_X10 (sm_67 hE) rfl (by decide) tg_1435 dX10_readsWord_15 ?_
  obtain ⟨v_5, hv_4, h⟩ := bd_ex h
  refine G.callV (rest := []) C (s_X10_byteAt_67 hE  hv_4) ⟨tg_1608, tg_103, ok_X10_byteAt, Nat.le_of_ble_eq_true rfl, Nat.le_of_ble_eq_true rfl⟩ tg_1605 tg_1607 tg_48 (sm_67 hE) rfl rfl (Nat.le_of_ble_eq_true rfl) dX10_readsWord_18 ⟨Nat.le_refl 0, Nat.le_refl 0⟩ ?_
  obtain ⟨v_7, hv_6, h⟩ := bd_ex h
  refine G.callS (rest := []) C (s_X10_isDigit  hv_6) ⟨tg_1646, tg_103, ok_X10_isDigit, Nat.le_of_ble_eq_true rfl, Nat.le_of_ble_eq_true rfl⟩ tg_1644 tg_1645 rfl (Nat.le_of_ble_eq_true rfl) dX10_readsWord_21 ⟨Nat.le_refl 0, Nat.le_refl 0⟩ ?_
  refine G.if_ne (tgt := 36) C dX10_readsWord_24 (by decide) (fun hc => ?_) (fun hc => ?_)
  · have h := it_f h hc
    exact G.sub [3, 2, 1, 0] rfl (g_X10_readsWord_67_36 hE C hr  h)
  · have h := it_t h hc
    refine G.aload_n C 3 dX10_readsWord_27 rfl rfl ?_
    refine G.iconst (v := (1 : Int32)) C dX10_readsWord_28 (by decide) ?_
    refine G.aload_n C 3 dX10_readsWord_29 rfl rfl ?_
    refine G.getI (k := 4) C k_X10 (sm_67 hE) rfl (by decide) tg_1435 dX10_readsWord_30 ?_
    obtain ⟨M_9, hv_8, h⟩ := bd_ex h
    refine G.callV (rest := []) C (s_X10_wrong_67 hE  hv_8) ⟨tg_1631, tg_103, ok_X10_wrong, Nat.le_of_ble_eq_true rfl, Nat.le_of_ble_eq_true rfl⟩ tg_1628 tg_1630 tg_53 (sm_67 hE) rfl rfl (Nat.le_of_ble_eq_true rfl) dX10_readsWord_33 ⟨Nat.le_refl 0, Nat.le_refl 0⟩ ?_
    exact G.sub [3, 2, 1, 0] rfl (g_X10_readsWord_67_36 hE C hr  h)
def f_X10_readsWord_67  (M : Mm) : Option Mm := bb_X10_readsWord_67_0 M
theorem s_X10_readsWord_67 {l : Launch} {E : Ev}  {M : Mm} {M' : Mm} (hE : Has shM (eH E)) (h : f_X10_readsWord_67 M = some M') : MetA l yX10_readsWord cX10_readsWord 5 none 3 E [.ref (eA E 67)] M none M' := by
  refine MetA.of (by decide +kernel) (Nat.le_of_ble_eq_true rfl) ?_
  intro p e s m below meth c C hr hnm
  exact G.sub [0] rfl (gb_X10_readsWord_67_0 hE C hr  h)
def bb_X10_readsBar_67_162 (k_60 : Int32 → Int32 → Int32 → Int32 → Int32 → Int32 → Int32 → Mm → Option Mm) (x1 : Int32) (x2 : Int32) (x3 : Int32) (x4 : Int32) (x5 : Int32) (x6 : Int32) (x7 : Int32) (x9 : Int64) (M : Mm) : Option Mm := ltv ((M.1 69 0) - (1 : Int32)) fun y_21 => gd (inb y_21 10) (gd (inb y_21 10) (ltv (wJ M 71 (ix y_21) ((M.2 71 (ix y_21)) ||| x9)) fun M_24 => ltv (x7 + (1 : Int32)) fun x7_25 => k_60 x1 x2 x3 x4 x5 x6 x7_25 M_24))
set_option maxHeartbeats 4000000 in
set_option maxRecDepth 100000 in
theorem gb_X10_readsBar_67_162  {k_60 : Int32 → Int32 → Int32 → Int32 → Int32 → Int32 → Int32 → Mm → Option Mm} {x1 : Int32} {x2 : Int32} {x3 : Int32} {x4 : Int32} {x5 : Int32} {x6 : Int32} {x7 : Int32} {x9 : Int64} {M : Mm} {M' : Mm} (hE : Has shM (eH E)) (C : Cx RX10 cX10_readsBar 11 p (rmD 4) s m args meth c E) (hr : meth.sig.returnType = none) (hk_60 : ∀ (x1 : Int32) (x2 : Int32) (x3 : Int32) (x4 : Int32) (x5 : Int32) (x6 : Int32) (x7 : Int32) (M : Mm), k_60 x1 x2 x3 x4 x5 x6 x7 M = some M' → G p l e (rmD 4) s m args below meth c E 11 0 0 (QR below args s E 0 0 none M') 60 [(0, .ref (eA E 67)), (1, .int x1), (2, .int x2), (3, .int x3), (4, .int x4), (5, .int x5), (6, .int x6), (7, .int x7)] [] M) (h : bb_X10_readsBar_67_162 k_60 x1 x2 x3 x4 x5 x6 x7 x9 M = some M') : G p l e (rmD 4) s m args below meth c E 11 0 0 (QR below args s E 0 0 none M') 162 [(0, .ref (eA E 67)), (1, .int x1), (2, .int x2), (3, .int x3), (4, .int x4), (5, .int x5), (6, .int x6), (7, .int x7), (9, .long x9)] [] M := by
  unfold bb_X10_readsBar_67_162 at h
  refine G.aload_n C 0 dX10_readsBar_162 rfl rfl ?_
  refine G.getR (k := 11) C k_X10 (sm_67 hE) rfl (by decide) tg_1442 dX10_readsBar_163 ?_
  refine G.aload_n C 0 dX10_readsBar_166 rfl rfl ?_
  refine G.getR (k := 9) C k_X10 (sm_67 hE) rfl (by decide) tg_1440 dX10_readsBar_167 ?_
  refine G.iconst (v := (0 : Int32)) C dX10_readsBar_170 (by decide) ?_
  refine G.aI (j := 0) C (sm_69 hE) (by decide) (by decide) dX10_readsBar_171 ?_
  refine G.iconst (v := (1 : Int32)) C dX10_readsBar_172 (by decide) ?_
  refine G.isub C dX10_readsBar_173 ?_
  obtain ⟨y_21, ey_21, h⟩ := ltv_ex h
  rw [← ey_21]
  refine G.dup2_11 C dX10_readsBar_174 rfl rfl ?_
  obtain ⟨hg_22, h⟩ := gd_ex h
  refine G.aJ (j := ix y_21) C (sm_71 hE) hg_22 rfl dX10_readsBar_175 ?_
  refine G.lload C 8 dX10_readsBar_176 rfl ?_
  refine G.lor C dX10_readsBar_178 ?_
  obtain ⟨hg_23, h⟩ := gd_ex h
  obtain ⟨M_24, eM_24, h⟩ := ltv_ex h
  refine G.sJ (j := (ix y_21)) C (sm_71 hE) hg_23 rfl dX10_readsBar_179 eM_24 ?_
  obtain ⟨x7_25, ex7_25, h⟩ := ltv_ex h
  refine G.iinc (L' := [(7, .int x7_25), (0, .ref (eA E 67)), (1, .int x1), (2, .int x2), (3, .int x3), (4, .int x4), (5, .int x5), (6, .int x6), (9, .long x9)]) C 7 dX10_readsBar_180 rfl (ex7_25.trans rfl) (by decide) rfl ?_
  refine G.goto (tgt := 60) C dX10_readsBar_183 (by decide) ?_
  exact G.sub [1, 2, 3, 4, 5, 6, 7, 0] rfl (hk_60 _ _ _ _ _ _ _ _  h)
def bb_X10_readsBar_67_108 (k_60 : Int32 → Int32 → Int32 → Int32 → Int32 → Int32 → Int32 → Mm → Option Mm) (x1 : Int32) (x2 : Int32) (x3 : Int32) (x4 : Int32) (x5 : Int32) (x6 : Int32) (x7 : Int32) (s0 : Int32) (M : Mm) : Option Mm := ltv (shL (1 : Int64) (((8 : Int32) * x7) + x6)) fun x9_14 => if x1 = (5 : Int32) then (ltv ((M.1 69 0) - (1 : Int32)) fun y_16 => gd (inb y_16 10) (gd (inb y_16 10) (ltv (wJ M 71 (ix y_16) ((M.2 71 (ix y_16)) &&& (x9_14 ^^^ (-1 : Int64)))) fun M_19 => ltv (x7 + (1 : Int32)) fun x7_20 => k_60 x1 x2 x3 x4 x5 x6 x7_20 M_19))) else (if x1 = (3 : Int32) then (bb_X10_readsBar_67_162 k_60 x1 x2 x3 x4 x5 x6 x7 x9_14 M) else (if s0 = 0 then (ltv (x7 + (1 : Int32)) fun x7_15 => k_60 x1 x2 x3 x4 x5 x6 x7_15 M) else (bb_X10_readsBar_67_162 k_60 x1 x2 x3 x4 x5 x6 x7 x9_14 M)))
set_option maxHeartbeats 4000000 in
set_option maxRecDepth 100000 in
theorem gb_X10_readsBar_67_108  {k_60 : Int32 → Int32 → Int32 → Int32 → Int32 → Int32 → Int32 → Mm → Option Mm} {x1 : Int32} {x2 : Int32} {x3 : Int32} {x4 : Int32} {x5 : Int32} {x6 : Int32} {x7 : Int32} {s0 : Int32} {M : Mm} {M' : Mm} (hE : Has shM (eH E)) (C : Cx RX10 cX10_readsBar 11 p (rmD 4) s m args meth c E) (hr : meth.sig.returnType = none) (hk_60 : ∀ (x1 : Int32) (x2 : Int32) (x3 : Int32) (x4 : Int32) (x5 : Int32) (x6 : Int32) (x7 : Int32) (M : Mm), k_60 x1 x2 x3 x4 x5 x6 x7 M = some M' → G p l e (rmD 4) s m args below meth c E 11 0 0 (QR below args s E 0 0 none M') 60 [(0, .ref (eA E 67)), (1, .int x1), (2, .int x2), (3, .int x3), (4, .int x4), (5, .int x5), (6, .int x6), (7, .int x7)] [] M) (h : bb_X10_readsBar_67_108 k_60 x1 x2 x3 x4 x5 x6 x7 s0 M = some M') : G p l e (rmD 4) s m args below meth c E 11 0 0 (QR below args s E 0 0 none M') 108 [(0, .ref (eA E 67)), (1, .int x1), (2, .int x2), (3, .int x3), (4, .int x4), (5, .int x5), (6, .int x6), (7, .int x7)] [.int s0] M := by
  unfold bb_X10_readsBar_67_108 at h
  refine G.istore (L' := [(8, .int s0), (0, .ref (eA E 67)), (1, .int x1), (2, .int x2), (3, .int x3), (4, .int x4), (5, .int x5), (6, .int x6), (7, .int x7)]) C dX10_readsBar_108 rfl (by decide) rfl ?_
  refine G.lconst (v := (1 : Int64)) C dX10_readsBar_110 (by decide) ?_
  refine G.bipush (v := (8 : Int32)) C dX10_readsBar_111 (by decide) ?_
  refine G.iload C 8 dX10_readsBar_113 rfl ?_
  refine G.imul C dX10_readsBar_115 ?_
  refine G.iload C 7 dX10_readsBar_116 rfl ?_
  refine G.iadd C dX10_readsBar_118 ?_
  refine G.lshl (v := shL (1 : Int64) (((8 : Int32) * x7) + x6)) C dX10_readsBar_119 rfl ?_
  obtain ⟨x9_14, ex9_14, h⟩ := ltv_ex h
  refine G.lstore (L' := [(9, .long x9_14), (8, .int s0), (0, .ref (eA E 67)), (1, .int x1), (2, .int x2), (3, .int x3), (4, .int x4), (5, .int x5), (6, .int x6), (7, .int x7)]) C dX10_readsBar_120 ex9_14 (by decide) rfl ?_
  refine G.iload_n C 3 dX10_readsBar_122 rfl rfl ?_
  refine G.iconst (v := (5 : Int32)) C dX10_readsBar_123 (by decide) ?_
  refine G.icmp_ne (tgt := 152) C dX10_readsBar_124 (by decide) (fun hc => ?_) (fun hc => ?_)
  · have h := it_f h hc
    refine G.iload_n C 3 dX10_readsBar_152 rfl rfl ?_
    refine G.iconst (v := (3 : Int32)) C dX10_readsBar_153 (by decide) ?_
    refine G.icmp_eq (tgt := 162) C dX10_readsBar_154 (by decide) (fun hc => ?_) (fun hc => ?_)
    · have h := it_t h hc
      exact G.sub [2, 3, 4, 5, 6, 7, 8, 9, 0] rfl (gb_X10_readsBar_67_162 hE C hr hk_60  h)
    · have h := it_f h hc
      refine G.iload C 1 dX10_readsBar_157 rfl ?_
      refine G.if_eq (tgt := 180) C dX10_readsBar_159 (by decide) (fun hc => ?_) (fun hc => ?_)
      · have h := it_t h hc
        obtain ⟨x7_15, ex7_15, h⟩ := ltv_ex h
        refine G.iinc (L' := [(7, .int x7_15), (9, .long x9_14), (8, .int s0), (0, .ref (eA E 67)), (1, .int x1), (2, .int x2), (3, .int x3), (4, .int x4), (5, .int x5), (6, .int x6)]) C 9 dX10_readsBar_180 rfl (ex7_15.trans rfl) (by decide) rfl ?_
        refine G.goto (tgt := 60) C dX10_readsBar_183 (by decide) ?_
        exact G.sub [3, 4, 5, 6, 7, 8, 9, 0] rfl (hk_60 _ _ _ _ _ _ _ _  h)
      · have h := it_f h hc
        exact G.sub [2, 3, 4, 5, 6, 7, 8, 9, 0] rfl (gb_X10_readsBar_67_162 hE C hr hk_60  h)
  · have h := it_t h hc
    refine G.aload_n C 2 dX10_readsBar_127 rfl rfl ?_
    refine G.getR (k := 11) C k_X10 (sm_67 hE) rfl (by decide) tg_1442 dX10_readsBar_128 ?_
    refine G.aload_n C 2 dX10_readsBar_131 rfl rfl ?_
    refine G.getR (k := 9) C k_X10 (sm_67 hE) rfl (by decide) tg_1440 dX10_readsBar_132 ?_
    refine G.iconst (v := (0 : Int32)) C dX10_readsBar_135 (by decide) ?_
    refine G.aI (j := 0) C (sm_69 hE) (by decide) (by decide) dX10_readsBar_136 ?_
    refine G.iconst (v := (1 : Int32)) C dX10_readsBar_137 (by decide) ?_
    refine G.isub C dX10_readsBar_138 ?_
    obtain ⟨y_16, ey_16, h⟩ := ltv_ex h
    rw [← ey_16]
    refine G.dup2_11 C dX10_readsBar_139 rfl rfl ?_
    obtain ⟨hg_17, h⟩ := gd_ex h
    refine G.aJ (j := ix y_16) C (sm_71 hE) hg_17 rfl dX10_readsBar_140 ?_
    refine G.lload C 0 dX10_readsBar_141 rfl ?_
    refine G.ldc2 C tg_1655 dX10_readsBar_143 ?_
    refine G.lxor C dX10_readsBar_146 ?_
    refine G.land C dX10_readsBar_147 ?_
    obtain ⟨hg_18, h⟩ := gd_ex h
    obtain ⟨M_19, eM_19, h⟩ := ltv_ex h
    refine G.sJ (j := (ix y_16)) C (sm_71 hE) hg_18 rfl dX10_readsBar_148 eM_19 ?_
    refine G.goto (tgt := 180) C dX10_readsBar_149 (by decide) ?_
    obtain ⟨x7_20, ex7_20, h⟩ := ltv_ex h
    refine G.iinc (L' := [(7, .int x7_20), (9, .long x9_14), (8, .int s0), (0, .ref (eA E 67)), (1, .int x1), (2, .int x2), (3, .int x3), (4, .int x4), (5, .int x5), (6, .int x6)]) C 9 dX10_readsBar_180 rfl (ex7_20.trans rfl) (by decide) rfl ?_
    refine G.goto (tgt := 60) C dX10_readsBar_183 (by decide) ?_
    exact G.sub [3, 4, 5, 6, 7, 8, 9, 0] rfl (hk_60 _ _ _ _ _ _ _ _  h)
def bb_X10_readsBar_67_103 (k_60 : Int32 → Int32 → Int32 → Int32 → Int32 → Int32 → Int32 → Mm → Option Mm) (x1 : Int32) (x2 : Int32) (x3 : Int32) (x4 : Int32) (x5 : Int32) (x6 : Int32) (x7 : Int32) (M : Mm) : Option Mm := bb_X10_readsBar_67_108 k_60 x1 x2 x3 x4 x5 x6 x7 (1 : Int32) M
set_option maxHeartbeats 4000000 in
set_option maxRecDepth 100000 in
theorem gb_X10_readsBar_67_103  {k_60 : Int32 → Int32 → Int32 → Int32 → Int32 → Int32 → Int32 → Mm → Option Mm} {x1 : Int32} {x2 : Int32} {x3 : Int32} {x4 : Int32} {x5 : Int32} {x6 : Int32} {x7 : Int32} {M : Mm} {M' : Mm} (hE : Has shM (eH E)) (C : Cx RX10 cX10_readsBar 11 p (rmD 4) s m args meth c E) (hr : meth.sig.returnType = none) (hk_60 : ∀ (x1 : Int32) (x2 : Int32) (x3 : Int32) (x4 : Int32) (x5 : Int32) (x6 : Int32) (x7 : Int32) (M : Mm), k_60 x1 x2 x3 x4 x5 x6 x7 M = some M' → G p l e (rmD 4) s m args below meth c E 11 0 0 (QR below args s E 0 0 none M') 60 [(0, .ref (eA E 67)), (1, .int x1), (2, .int x2), (3, .int x3), (4, .int x4), (5, .int x5), (6, .int x6), (7, .int x7)] [] M) (h : bb_X10_readsBar_67_103 k_60 x1 x2 x3 x4 x5 x6 x7 M = some M') : G p l e (rmD 4) s m args below meth c E 11 0 0 (QR below args s E 0 0 none M') 103 [(0, .ref (eA E 67)), (1, .int x1), (2, .int x2), (3, .int x3), (4, .int x4), (5, .int x5), (6, .int x6), (7, .int x7)] [] M := by
  unfold bb_X10_readsBar_67_103 at h
  refine G.iconst (v := (1 : Int32)) C dX10_readsBar_103 (by decide) ?_
  refine G.goto (tgt := 108) C dX10_readsBar_104 (by decide) ?_
  exact G.sub [0, 1, 2, 3, 4, 5, 6, 7] rfl (gb_X10_readsBar_67_108 hE C hr hk_60  h)
def bb_X10_readsBar_67_60 (k_41 : Int32 → Int32 → Int32 → Int32 → Int32 → Int32 → Mm → Option Mm) (k_60 : Int32 → Int32 → Int32 → Int32 → Int32 → Int32 → Int32 → Mm → Option Mm) (x1 : Int32) (x2 : Int32) (x3 : Int32) (x4 : Int32) (x5 : Int32) (x6 : Int32) (x7 : Int32) (M : Mm) : Option Mm := if (x3 + x5) ≤ x7 then (ltv (x6 + (1 : Int32)) fun x6_13 => k_41 x1 x2 x3 x4 x5 x6_13 M) else (if x6 = x2 then (bb_X10_readsBar_67_103 k_60 x1 x2 x3 x4 x5 x6 x7 M) else (if x7 = x3 then (bb_X10_readsBar_67_103 k_60 x1 x2 x3 x4 x5 x6 x7 M) else (if x6 = ((x2 + x4) - (1 : Int32)) then (bb_X10_readsBar_67_103 k_60 x1 x2 x3 x4 x5 x6 x7 M) else (if x7 = ((x3 + x5) - (1 : Int32)) then (bb_X10_readsBar_67_103 k_60 x1 x2 x3 x4 x5 x6 x7 M) else (bb_X10_readsBar_67_108 k_60 x1 x2 x3 x4 x5 x6 x7 (0 : Int32) M)))))
set_option maxHeartbeats 4000000 in
set_option maxRecDepth 100000 in
theorem gb_X10_readsBar_67_60  {k_41 : Int32 → Int32 → Int32 → Int32 → Int32 → Int32 → Mm → Option Mm} {k_60 : Int32 → Int32 → Int32 → Int32 → Int32 → Int32 → Int32 → Mm → Option Mm} {x1 : Int32} {x2 : Int32} {x3 : Int32} {x4 : Int32} {x5 : Int32} {x6 : Int32} {x7 : Int32} {M : Mm} {M' : Mm} (hE : Has shM (eH E)) (C : Cx RX10 cX10_readsBar 11 p (rmD 4) s m args meth c E) (hr : meth.sig.returnType = none) (hk_41 : ∀ (x1 : Int32) (x2 : Int32) (x3 : Int32) (x4 : Int32) (x5 : Int32) (x6 : Int32) (M : Mm), k_41 x1 x2 x3 x4 x5 x6 M = some M' → G p l e (rmD 4) s m args below meth c E 11 0 0 (QR below args s E 0 0 none M') 41 [(0, .ref (eA E 67)), (1, .int x1), (2, .int x2), (3, .int x3), (4, .int x4), (5, .int x5), (6, .int x6)] [] M) (hk_60 : ∀ (x1 : Int32) (x2 : Int32) (x3 : Int32) (x4 : Int32) (x5 : Int32) (x6 : Int32) (x7 : Int32) (M : Mm), k_60 x1 x2 x3 x4 x5 x6 x7 M = some M' → G p l e (rmD 4) s m args below meth c E 11 0 0 (QR below args s E 0 0 none M') 60 [(0, .ref (eA E 67)), (1, .int x1), (2, .int x2), (3, .int x3), (4, .int x4), (5, .int x5), (6, .int x6), (7, .int x7)] [] M) (h : bb_X10_readsBar_67_60 k_41 k_60 x1 x2 x3 x4 x5 x6 x7 M = some M') : G p l e (rmD 4) s m args below meth c E 11 0 0 (QR below args s E 0 0 none M') 60 [(0, .ref (eA E 67)), (1, .int x1), (2, .int x2), (3, .int x3), (4, .int x4), (5, .int x5), (6, .int x6), (7, .int x7)] [] M := by
  unfold bb_X10_readsBar_67_60 at h
  refine G.iload C 7 dX10_readsBar_60 rfl ?_
  refine G.iload_n C 3 dX10_readsBar_62 rfl rfl ?_
  refine G.iload C 5 dX10_readsBar_63 rfl ?_
  refine G.iadd C dX10_readsBar_65 ?_
  refine G.icmp_ge (tgt := 186) C dX10_readsBar_66 (by decide) (fun hc => ?_) (fun hc => ?_)
  · have h := it_t h hc
    obtain ⟨x6_13, ex6_13, h⟩ := ltv_ex h
    refine G.iinc (L' := [(6, .int x6_13), (0, .ref (eA E 67)), (1, .int x1), (2, .int x2), (3, .int x3), (4, .int x4), (5, .int x5), (7, .int x7)]) C 6 dX10_readsBar_186 rfl (ex6_13.trans rfl) (by decide) rfl ?_
    refine G.goto (tgt := 41) C dX10_readsBar_189 (by decide) ?_
    exact G.sub [1, 2, 3, 4, 5, 6, 0] rfl (hk_41 _ _ _ _ _ _ _  h)
  · have h := it_f h hc
    refine G.iload C 6 dX10_readsBar_69 rfl ?_
    refine G.iload_n C 2 dX10_readsBar_71 rfl rfl ?_
    refine G.icmp_eq (tgt := 103) C dX10_readsBar_72 (by decide) (fun hc => ?_) (fun hc => ?_)
    · have h := it_t h hc
      exact G.sub [0, 1, 2, 3, 4, 5, 6, 7] rfl (gb_X10_readsBar_67_103 hE C hr hk_60  h)
    · have h := it_f h hc
      refine G.iload C 7 dX10_readsBar_75 rfl ?_
      refine G.iload_n C 3 dX10_readsBar_77 rfl rfl ?_
      refine G.icmp_eq (tgt := 103) C dX10_readsBar_78 (by decide) (fun hc => ?_) (fun hc => ?_)
      · have h := it_t h hc
        exact G.sub [0, 1, 2, 3, 4, 5, 6, 7] rfl (gb_X10_readsBar_67_103 hE C hr hk_60  h)
      · have h := it_f h hc
        refine G.iload C 6 dX10_readsBar_81 rfl ?_
        refine G.iload_n C 2 dX10_readsBar_83 rfl rfl ?_
        refine G.iload C 4 dX10_readsBar_84 rfl ?_
        refine G.iadd C dX10_readsBar_86 ?_
        refine G.iconst (v := (1 : Int32)) C dX10_readsBar_87 (by decide) ?_
        refine G.isub C dX10_readsBar_88 ?_
        refine G.icmp_eq (tgt := 103) C dX10_readsBar_89 (by decide) (fun hc => ?_) (fun hc => ?_)
        · have h := it_t h hc
          exact G.sub [0, 1, 2, 3, 4, 5, 6, 7] rfl (gb_X10_readsBar_67_103 hE C hr hk_60  h)
        · have h := it_f h hc
          refine G.iload C 7 dX10_readsBar_92 rfl ?_
          refine G.iload_n C 3 dX10_readsBar_94 rfl rfl ?_
          refine G.iload C 5 dX10_readsBar_95 rfl ?_
          refine G.iadd C dX10_readsBar_97 ?_
          refine G.iconst (v := (1 : Int32)) C dX10_readsBar_98 (by decide) ?_
          refine G.isub C dX10_readsBar_99 ?_
          refine G.icmp_ne (tgt := 107) C dX10_readsBar_100 (by decide) (fun hc => ?_) (fun hc => ?_)
          · have h := it_f h hc
            refine G.iconst (v := (0 : Int32)) C dX10_readsBar_107 (by decide) ?_
            exact G.sub [0, 1, 2, 3, 4, 5, 6, 7] rfl (gb_X10_readsBar_67_108 hE C hr hk_60  h)
          · have h := it_t h hc
            exact G.sub [0, 1, 2, 3, 4, 5, 6, 7] rfl (gb_X10_readsBar_67_103 hE C hr hk_60  h)
def b_X10_readsBar_67_60 (k_41 : Int32 → Int32 → Int32 → Int32 → Int32 → Int32 → Mm → Option Mm) : Nat → Int32 → Int32 → Int32 → Int32 → Int32 → Int32 → Int32 → Mm → Option Mm
  | 0, _, _, _, _, _, _, _, _ => none
  | n + 1, x1, x2, x3, x4, x5, x6, x7, M => bb_X10_readsBar_67_60 k_41 (b_X10_readsBar_67_60 k_41 n) x1 x2 x3 x4 x5 x6 x7 M
set_option maxHeartbeats 4000000 in
theorem g_X10_readsBar_67_60  {k_41 : Int32 → Int32 → Int32 → Int32 → Int32 → Int32 → Mm → Option Mm} {n : Nat} {x1 : Int32} {x2 : Int32} {x3 : Int32} {x4 : Int32} {x5 : Int32} {x6 : Int32} {x7 : Int32} {M : Mm} {M' : Mm} (hE : Has shM (eH E)) (C : Cx RX10 cX10_readsBar 11 p (rmD 4) s m args meth c E) (hr : meth.sig.returnType = none) (hk_41 : ∀ (x1 : Int32) (x2 : Int32) (x3 : Int32) (x4 : Int32) (x5 : Int32) (x6 : Int32) (M : Mm), k_41 x1 x2 x3 x4 x5 x6 M = some M' → G p l e (rmD 4) s m args below meth c E 11 0 0 (QR below args s E 0 0 none M') 41 [(0, .ref (eA E 67)), (1, .int x1), (2, .int x2), (3, .int x3), (4, .int x4), (5, .int x5), (6, .int x6)] [] M) (h : b_X10_readsBar_67_60 k_41 n x1 x2 x3 x4 x5 x6 x7 M = some M') : G p l e (rmD 4) s m args below meth c E 11 0 0 (QR below args s E 0 0 none M') 60 [(0, .ref (eA E 67)), (1, .int x1), (2, .int x2), (3, .int x3), (4, .int x4), (5, .int x5), (6, .int x6), (7, .int x7)] [] M := by
  induction n generalizing x1 x2 x3 x4 x5 x6 x7 M with
  | zero => cases h
  | succ n ih => exact gb_X10_readsBar_67_60 hE C hr hk_41 (fun _ _ _ _ _ _ _ _ => ih)  h
def bb_X10_readsBar_67_41 (k_41 : Int32 → Int32 → Int32 → Int32 → Int32 → Int32 → Mm → Option Mm) (x1 : Int32) (x2 : Int32) (x3 : Int32) (x4 : Int32) (x5 : Int32) (x6 : Int32) (M : Mm) : Option Mm := if (x2 + x4) ≤ x6 then (some M) else (if (M.1 67 5) = 0 then (b_X10_readsBar_67_60 k_41 FU x1 x2 x3 x4 x5 x6 x3 M) else (some M))
set_option maxHeartbeats 4000000 in
set_option maxRecDepth 100000 in
theorem gb_X10_readsBar_67_41  {k_41 : Int32 → Int32 → Int32 → Int32 → Int32 → Int32 → Mm → Option Mm} {x1 : Int32} {x2 : Int32} {x3 : Int32} {x4 : Int32} {x5 : Int32} {x6 : Int32} {M : Mm} {M' : Mm} (hE : Has shM (eH E)) (C : Cx RX10 cX10_readsBar 11 p (rmD 4) s m args meth c E) (hr : meth.sig.returnType = none) (hk_41 : ∀ (x1 : Int32) (x2 : Int32) (x3 : Int32) (x4 : Int32) (x5 : Int32) (x6 : Int32) (M : Mm), k_41 x1 x2 x3 x4 x5 x6 M = some M' → G p l e (rmD 4) s m args below meth c E 11 0 0 (QR below args s E 0 0 none M') 41 [(0, .ref (eA E 67)), (1, .int x1), (2, .int x2), (3, .int x3), (4, .int x4), (5, .int x5), (6, .int x6)] [] M) (h : bb_X10_readsBar_67_41 k_41 x1 x2 x3 x4 x5 x6 M = some M') : G p l e (rmD 4) s m args below meth c E 11 0 0 (QR below args s E 0 0 none M') 41 [(0, .ref (eA E 67)), (1, .int x1), (2, .int x2), (3, .int x3), (4, .int x4), (5, .int x5), (6, .int x6)] [] M := by
  unfold bb_X10_readsBar_67_41 at h
  refine G.iload C 6 dX10_readsBar_41 rfl ?_
  refine G.iload_n C 2 dX10_readsBar_43 rfl rfl ?_
  refine G.iload C 4 dX10_readsBar_44 rfl ?_
  refine G.iadd C dX10_readsBar_46 ?_
  refine G.icmp_ge (tgt := 192) C dX10_readsBar_47 (by decide) (fun hc => ?_) (fun hc => ?_)
  · have h := it_t h hc
    cases h
    exact G.vret C hr dX10_readsBar_192
  · have h := it_f h hc
    refine G.aload_n C 0 dX10_readsBar_50 rfl rfl ?_
    refine G.getI (k := 5) C k_X10 (sm_67 hE) rfl (by decide) tg_1436 dX10_readsBar_51 ?_
    refine G.if_ne (tgt := 192) C dX10_readsBar_54 (by decide) (fun hc => ?_) (fun hc => ?_)
    · have h := it_f h hc
      cases h
      exact G.vret C hr dX10_readsBar_192
    · have h := it_t h hc
      refine G.iload_n C 3 dX10_readsBar_57 rfl rfl ?_
      refine G.istore (L' := [(7, .int x3), (0, .ref (eA E 67)), (1, .int x1), (2, .int x2), (3, .int x3), (4, .int x4), (5, .int x5), (6, .int x6)]) C dX10_readsBar_58 rfl (by decide) rfl ?_
      exact G.sub [1, 2, 3, 4, 5, 6, 7, 0] rfl (g_X10_readsBar_67_60 hE C hr hk_41  h)
def b_X10_readsBar_67_41 : Nat → Int32 → Int32 → Int32 → Int32 → Int32 → Int32 → Mm → Option Mm
  | 0, _, _, _, _, _, _, _ => none
  | n + 1, x1, x2, x3, x4, x5, x6, M => bb_X10_readsBar_67_41 (b_X10_readsBar_67_41 n) x1 x2 x3 x4 x5 x6 M
set_option maxHeartbeats 4000000 in
theorem g_X10_readsBar_67_41  {n : Nat} {x1 : Int32} {x2 : Int32} {x3 : Int32} {x4 : Int32} {x5 : Int32} {x6 : Int32} {M : Mm} {M' : Mm} (hE : Has shM (eH E)) (C : Cx RX10 cX10_readsBar 11 p (rmD 4) s m args meth c E) (hr : meth.sig.returnType = none) (h : b_X10_readsBar_67_41 n x1 x2 x3 x4 x5 x6 M = some M') : G p l e (rmD 4) s m args below meth c E 11 0 0 (QR below args s E 0 0 none M') 41 [(0, .ref (eA E 67)), (1, .int x1), (2, .int x2), (3, .int x3), (4, .int x4), (5, .int x5), (6, .int x6)] [] M := by
  induction n generalizing x1 x2 x3 x4 x5 x6 M with
  | zero => cases h
  | succ n ih => exact gb_X10_readsBar_67_41 hE C hr (fun _ _ _ _ _ _ _ => ih)  h
def bb_X10_readsBar_67_0 (x1 : Int32) (M : Mm) : Option Mm := bd2 (f_X10_numberHere_67 (0 : Int32) (7 : Int32) M) fun v_3 M_2 => bd2 (f_X10_numberHere_67 (0 : Int32) (7 : Int32) M_2) fun v_6 M_5 => bd2 (f_X10_numberHere_67 (1 : Int32) ((8 : Int32) - v_3) M_5) fun v_9 M_8 => bd2 (f_X10_numberHere_67 (1 : Int32) ((8 : Int32) - v_6) M_8) fun v_12 M_11 => b_X10_readsBar_67_41 FU x1 v_3 v_6 v_9 v_12 v_3 M_11
set_option maxHeartbeats 4000000 in
set_option maxRecDepth 100000 in
theorem gb_X10_readsBar_67_0  {x1 : Int32} {M : Mm} {M' : Mm} (hE : Has shM (eH E)) (C : Cx RX10 cX10_readsBar 11 p (rmD 4) s m args meth c E) (hr : meth.sig.returnType = none) (h : bb_X10_readsBar_67_0 x1 M = some M') : G p l e (rmD 4) s m args below meth c E 11 0 0 (QR below args s E 0 0 none M') 0 [(0, .ref (eA E 67)), (1, .int x1)] [] M := by
  unfold bb_X10_readsBar_67_0 at h
  refine G.aload_n C 0 dX10_readsBar_0 rfl rfl ?_
  refine G.iconst (v := (0 : Int32)) C dX10_readsBar_1 (by decide) ?_
  refine G.bipush (v := (7 : Int32)) C dX10_readsBar_2 (by decide) ?_
  obtain ⟨v_3, M_2, hv_1, h⟩ := bd2_ex h
  refine G.callV (rest := []) C (s_X10_numberHere_67 hE  hv_1) ⟨tg_1643, tg_103, ok_X10_numberHere, Nat.le_of_ble_eq_true rfl, Nat.le_of_ble_eq_true rfl⟩ tg_1640 tg_1642 tg_56 (sm_67 hE) rfl rfl (Nat.le_of_ble_eq_true rfl) dX10_readsBar_4 ⟨Nat.le_refl 0, Nat.le_refl 0⟩ ?_
  refine G.istore_n (L' := [(2, .int v_3), (0, .ref (eA E 67)), (1, .int x1)]) C dX10_readsBar_7 rfl rfl (by decide) rfl ?_
  refine G.aload_n C 1 dX10_readsBar_8 rfl rfl ?_
  refine G.iconst (v := (0 : Int32)) C dX10_readsBar_9 (by decide) ?_
  refine G.bipush (v := (7 : Int32)) C dX10_readsBar_10 (by decide) ?_
  obtain ⟨v_6, M_5, hv_4, h⟩ := bd2_ex h
  refine G.callV (rest := []) C (s_X10_numberHere_67 hE  hv_4) ⟨tg_1643, tg_103, ok_X10_numberHere, Nat.le_of_ble_eq_true rfl, Nat.le_of_ble_eq_true rfl⟩ tg_1640 tg_1642 tg_56 (sm_67 hE) rfl rfl (Nat.le_of_ble_eq_true rfl) dX10_readsBar_12 ⟨Nat.le_refl 0, Nat.le_refl 0⟩ ?_
  refine G.istore_n (L' := [(3, .int v_6), (2, .int v_3), (0, .ref (eA E 67)), (1, .int x1)]) C dX10_readsBar_15 rfl rfl (by decide) rfl ?_
  refine G.aload_n C 2 dX10_readsBar_16 rfl rfl ?_
  refine G.iconst (v := (1 : Int32)) C dX10_readsBar_17 (by decide) ?_
  refine G.bipush (v := (8 : Int32)) C dX10_readsBar_18 (by decide) ?_
  refine G.iload_n C 1 dX10_readsBar_20 rfl rfl ?_
  refine G.isub C dX10_readsBar_21 ?_
  obtain ⟨v_9, M_8, hv_7, h⟩ := bd2_ex h
  refine G.callV (rest := []) C (s_X10_numberHere_67 hE  hv_7) ⟨tg_1643, tg_103, ok_X10_numberHere, Nat.le_of_ble_eq_true rfl, Nat.le_of_ble_eq_true rfl⟩ tg_1640 tg_1642 tg_56 (sm_67 hE) rfl rfl (Nat.le_of_ble_eq_true rfl) dX10_readsBar_22 ⟨Nat.le_refl 0, Nat.le_refl 0⟩ ?_
  refine G.istore (L' := [(4, .int v_9), (3, .int v_6), (2, .int v_3), (0, .ref (eA E 67)), (1, .int x1)]) C dX10_readsBar_25 rfl (by decide) rfl ?_
  refine G.aload_n C 3 dX10_readsBar_27 rfl rfl ?_
  refine G.iconst (v := (1 : Int32)) C dX10_readsBar_28 (by decide) ?_
  refine G.bipush (v := (8 : Int32)) C dX10_readsBar_29 (by decide) ?_
  refine G.iload_n C 1 dX10_readsBar_31 rfl rfl ?_
  refine G.isub C dX10_readsBar_32 ?_
  obtain ⟨v_12, M_11, hv_10, h⟩ := bd2_ex h
  refine G.callV (rest := []) C (s_X10_numberHere_67 hE  hv_10) ⟨tg_1643, tg_103, ok_X10_numberHere, Nat.le_of_ble_eq_true rfl, Nat.le_of_ble_eq_true rfl⟩ tg_1640 tg_1642 tg_56 (sm_67 hE) rfl rfl (Nat.le_of_ble_eq_true rfl) dX10_readsBar_33 ⟨Nat.le_refl 0, Nat.le_refl 0⟩ ?_
  refine G.istore (L' := [(5, .int v_12), (4, .int v_9), (3, .int v_6), (2, .int v_3), (0, .ref (eA E 67)), (1, .int x1)]) C dX10_readsBar_36 rfl (by decide) rfl ?_
  refine G.iload_n C 3 dX10_readsBar_38 rfl rfl ?_
  refine G.istore (L' := [(6, .int v_3), (5, .int v_12), (4, .int v_9), (3, .int v_6), (2, .int v_3), (0, .ref (eA E 67)), (1, .int x1)]) C dX10_readsBar_39 rfl (by decide) rfl ?_
  exact G.sub [5, 6, 4, 3, 2, 1, 0] rfl (g_X10_readsBar_67_41 hE C hr  h)
def f_X10_readsBar_67 (x1 : Int32) (M : Mm) : Option Mm := bb_X10_readsBar_67_0 x1 M
theorem s_X10_readsBar_67 {l : Launch} {E : Ev} {x1 : Int32} {M : Mm} {M' : Mm} (hE : Has shM (eH E)) (h : f_X10_readsBar_67 x1 M = some M') : MetA l yX10_readsBar cX10_readsBar 11 none 4 E [.ref (eA E 67), .int x1] M none M' := by
  refine MetA.of (by decide +kernel) (Nat.le_of_ble_eq_true rfl) ?_
  intro p e s m below meth c C hr hnm
  exact G.sub [0, 1] rfl (gb_X10_readsBar_67_0 hE C hr  h)
def bb_X10_is_0 (x0 : Int64) (x2 : Int32) : Option Int32 := if ((ushL x0 x2) &&& (1 : Int64)) = (1 : Int64) then (some (1 : Int32)) else (some (0 : Int32))
set_option maxHeartbeats 4000000 in
set_option maxRecDepth 100000 in
theorem gb_X10_is_0 {M : Mm}  {x0 : Int64} {x2 : Int32} {v : Int32} (C : Cx RX10 cX10_is 3 p (rmD 1) s m args meth c E) (hr : meth.sig.returnType = (some .boolean)) (h : bb_X10_is_0 x0 x2 = some v) : G p l e (rmD 1) s m args below meth c E 3 0 0 (QR below args s E 0 0 (some (.int v)) M) 0 [(0, .long x0), (2, .int x2)] [] M := by
  unfold bb_X10_is_0 at h
  refine G.lload_n C 0 dX10_is_0 rfl rfl ?_
  refine G.iload_n C 1 dX10_is_1 rfl rfl ?_
  refine G.lushr (v := ushL x0 x2) C dX10_is_2 rfl ?_
  refine G.lconst (v := (1 : Int64)) C dX10_is_3 (by decide) ?_
  refine G.land C dX10_is_4 ?_
  refine G.lconst (v := (1 : Int64)) C dX10_is_5 (by decide) ?_
  refine G.lcmp C dX10_is_6 (G.if_ne (tgt := 14) C dX10_is_7 (by decide) (fun hc => ?_) (fun hc => ?_))
  · have h := it_f h (lgc_ne.mp hc)
    refine G.iconst (v := (0 : Int32)) C dX10_is_14 (by decide) ?_
    cases h
    exact G.zret C hr rfl dX10_is_15
  · have h := it_t h (lgc_eq.mp hc)
    refine G.iconst (v := (1 : Int32)) C dX10_is_10 (by decide) ?_
    refine G.goto (tgt := 15) C dX10_is_11 (by decide) ?_
    cases h
    exact G.zret C hr rfl dX10_is_15
def f_X10_is (x0 : Int64) (x2 : Int32) : Option Int32 := bb_X10_is_0 x0 x2
theorem s_X10_is {l : Launch} {E : Ev} {x0 : Int64} {x2 : Int32} {M : Mm} {v : Int32} (h : f_X10_is x0 x2 = some v) : MetA l yX10_is cX10_is 3 (some .boolean) 1 E [.long x0, .int x2] M (some (.int v)) M := by
  refine MetA.of (by decide +kernel) (Nat.le_of_ble_eq_true rfl) ?_
  intro p e s m below meth c C hr hnm
  exact G.sub [0, 1] rfl (gb_X10_is_0 C hr  h)
def bb_X10_readsLetter_67_33 (k_33 : Int32 → Int64 → Int64 → Int32 → Mm → Option Mm) (x1 : Int32) (x2 : Int64) (x4 : Int64) (x6 : Int32) (M : Mm) : Option Mm := if (64 : Int32) ≤ x6 then (if (M.1 67 5) = 0 then (gd (inb (M.1 69 0) 10) (ltv (wJ M 71 (ix (M.1 69 0)) x4) fun M_7 => ltv (wI M_7 69 0 ((M_7.1 69 0) + (1 : Int32))) fun M_8 => some M_8)) else (some M)) else (bd (f_X10_is x2 x6) fun v_10 => if v_10 = 0 then (ltv (x6 + (1 : Int32)) fun x6_11 => k_33 x1 x2 x4 x6_11 M) else (if x1 = (1 : Int32) then (ltv (x4 ||| (shL (1 : Int64) ((63 : Int32) - x6))) fun x4_14 => ltv (x6 + (1 : Int32)) fun x6_15 => k_33 x1 x2 x4_14 x6_15 M) else (ltv (x4 ||| (shL (1 : Int64) (((x6 - (rmI x6 (8 : Int32))) + (7 : Int32)) - (rmI x6 (8 : Int32))))) fun x4_12 => ltv (x6 + (1 : Int32)) fun x6_13 => k_33 x1 x2 x4_12 x6_13 M)))
set_option maxHeartbeats 4000000 in
set_option maxRecDepth 100000 in
theorem gb_X10_readsLetter_67_33  {k_33 : Int32 → Int64 → Int64 → Int32 → Mm → Option Mm} {x1 : Int32} {x2 : Int64} {x4 : Int64} {x6 : Int32} {M : Mm} {M' : Mm} (hE : Has shM (eH E)) (C : Cx RX10 cX10_readsLetter 7 p (rmD 4) s m args meth c E) (hr : meth.sig.returnType = none) (hk_33 : ∀ (x1 : Int32) (x2 : Int64) (x4 : Int64) (x6 : Int32) (M : Mm), k_33 x1 x2 x4 x6 M = some M' → G p l e (rmD 4) s m args below meth c E 7 0 0 (QR below args s E 0 0 none M') 33 [(0, .ref (eA E 67)), (1, .int x1), (2, .long x2), (4, .long x4), (6, .int x6)] [] M) (h : bb_X10_readsLetter_67_33 k_33 x1 x2 x4 x6 M = some M') : G p l e (rmD 4) s m args below meth c E 7 0 0 (QR below args s E 0 0 none M') 33 [(0, .ref (eA E 67)), (1, .int x1), (2, .long x2), (4, .long x4), (6, .int x6)] [] M := by
  unfold bb_X10_readsLetter_67_33 at h
  refine G.iload C 4 dX10_readsLetter_33 rfl ?_
  refine G.bipush (v := (64 : Int32)) C dX10_readsLetter_35 (by decide) ?_
  refine G.icmp_ge (tgt := 92) C dX10_readsLetter_37 (by decide) (fun hc => ?_) (fun hc => ?_)
  · have h := it_t h hc
    refine G.aload_n C 0 dX10_readsLetter_92 rfl rfl ?_
    refine G.getI (k := 5) C k_X10 (sm_67 hE) rfl (by decide) tg_1436 dX10_readsLetter_93 ?_
    refine G.if_eq (tgt := 100) C dX10_readsLetter_96 (by decide) (fun hc => ?_) (fun hc => ?_)
    · have h := it_t h hc
      refine G.aload_n C 0 dX10_readsLetter_100 rfl rfl ?_
      refine G.getR (k := 11) C k_X10 (sm_67 hE) rfl (by decide) tg_1442 dX10_readsLetter_101 ?_
      refine G.aload_n C 0 dX10_readsLetter_104 rfl rfl ?_
      refine G.getR (k := 9) C k_X10 (sm_67 hE) rfl (by decide) tg_1440 dX10_readsLetter_105 ?_
      refine G.iconst (v := (0 : Int32)) C dX10_readsLetter_108 (by decide) ?_
      refine G.aI (j := 0) C (sm_69 hE) (by decide) (by decide) dX10_readsLetter_109 ?_
      refine G.lload C 3 dX10_readsLetter_110 rfl ?_
      obtain ⟨hg_6, h⟩ := gd_ex h
      obtain ⟨M_7, eM_7, h⟩ := ltv_ex h
      refine G.sJ (j := (ix (M.1 69 0))) C (sm_71 hE) hg_6 rfl dX10_readsLetter_112 eM_7 ?_
      refine G.aload_n C 0 dX10_readsLetter_113 rfl rfl ?_
      refine G.getR (k := 9) C k_X10 (sm_67 hE) rfl (by decide) tg_1440 dX10_readsLetter_114 ?_
      refine G.iconst (v := (0 : Int32)) C dX10_readsLetter_117 (by decide) ?_
      refine G.dup2_11 C dX10_readsLetter_118 rfl rfl ?_
      refine G.aI (j := 0) C (sm_69 hE) (by decide) (by decide) dX10_readsLetter_119 ?_
      refine G.iconst (v := (1 : Int32)) C dX10_readsLetter_120 (by decide) ?_
      refine G.iadd C dX10_readsLetter_121 ?_
      obtain ⟨M_8, eM_8, h⟩ := ltv_ex h
      refine G.sI (j := 0) C (sm_69 hE) (by decide) (by decide) dX10_readsLetter_122 eM_8 ?_
      cases h
      exact G.vret C hr dX10_readsLetter_123
    · have h := it_f h hc
      cases h
      exact G.vret C hr dX10_readsLetter_99
  · have h := it_f h hc
    refine G.lload_n C 2 dX10_readsLetter_40 rfl rfl ?_
    refine G.iload C 4 dX10_readsLetter_41 rfl ?_
    obtain ⟨v_10, hv_9, h⟩ := bd_ex h
    refine G.callS (rest := []) C (s_X10_is  hv_9) ⟨tg_1650, tg_103, ok_X10_is, Nat.le_of_ble_eq_true rfl, Nat.le_of_ble_eq_true rfl⟩ tg_1648 tg_1649 rfl (Nat.le_of_ble_eq_true rfl) dX10_readsLetter_43 ⟨Nat.le_refl 0, Nat.le_refl 0⟩ ?_
    refine G.if_eq (tgt := 86) C dX10_readsLetter_46 (by decide) (fun hc => ?_) (fun hc => ?_)
    · have h := it_t h hc
      obtain ⟨x6_11, ex6_11, h⟩ := ltv_ex h
      refine G.iinc (L' := [(6, .int x6_11), (0, .ref (eA E 67)), (1, .int x1), (2, .long x2), (4, .long x4)]) C 4 dX10_readsLetter_86 rfl (ex6_11.trans rfl) (by decide) rfl ?_
      refine G.goto (tgt := 33) C dX10_readsLetter_89 (by decide) ?_
      exact G.sub [1, 2, 3, 4, 0] rfl (hk_33 _ _ _ _ _  h)
    · have h := it_f h hc
      refine G.lload C 3 dX10_readsLetter_49 rfl ?_
      refine G.lconst (v := (1 : Int64)) C dX10_readsLetter_51 (by decide) ?_
      refine G.iload_n C 1 dX10_readsLetter_52 rfl rfl ?_
      refine G.iconst (v := (1 : Int32)) C dX10_readsLetter_53 (by decide) ?_
      refine G.icmp_ne (tgt := 65) C dX10_readsLetter_54 (by decide) (fun hc => ?_) (fun hc => ?_)
      · have h := it_f h hc
        refine G.iload C 4 dX10_readsLetter_65 rfl ?_
        refine G.iload C 4 dX10_readsLetter_67 rfl ?_
        refine G.bipush (v := (8 : Int32)) C dX10_readsLetter_69 (by decide) ?_
        refine G.irm C dX10_readsLetter_71 (by decide) ?_
        refine G.isub C dX10_readsLetter_72 ?_
        refine G.bipush (v := (7 : Int32)) C dX10_readsLetter_73 (by decide) ?_
        refine G.iadd C dX10_readsLetter_75 ?_
        refine G.iload C 4 dX10_readsLetter_76 rfl ?_
        refine G.bipush (v := (8 : Int32)) C dX10_readsLetter_78 (by decide) ?_
        refine G.irm C dX10_readsLetter_80 (by decide) ?_
        refine G.isub C dX10_readsLetter_81 ?_
        refine G.lshl (v := shL (1 : Int64) (((x6 - (rmI x6 (8 : Int32))) + (7 : Int32)) - (rmI x6 (8 : Int32)))) C dX10_readsLetter_82 rfl ?_
        refine G.lor C dX10_readsLetter_83 ?_
        obtain ⟨x4_12, ex4_12, h⟩ := ltv_ex h
        refine G.lstore (L' := [(4, .long x4_12), (0, .ref (eA E 67)), (1, .int x1), (2, .long x2), (6, .int x6)]) C dX10_readsLetter_84 ex4_12 (by decide) rfl ?_
        obtain ⟨x6_13, ex6_13, h⟩ := ltv_ex h
        refine G.iinc (L' := [(6, .int x6_13), (4, .long x4_12), (0, .ref (eA E 67)), (1, .int x1), (2, .long x2)]) C 4 dX10_readsLetter_86 rfl (ex6_13.trans rfl) (by decide) rfl ?_
        refine G.goto (tgt := 33) C dX10_readsLetter_89 (by decide) ?_
        exact G.sub [2, 3, 4, 1, 0] rfl (hk_33 _ _ _ _ _  h)
      · have h := it_t h hc
        refine G.bipush (v := (63 : Int32)) C dX10_readsLetter_57 (by decide) ?_
        refine G.iload C 4 dX10_readsLetter_59 rfl ?_
        refine G.isub C dX10_readsLetter_61 ?_
        refine G.goto (tgt := 82) C dX10_readsLetter_62 (by decide) ?_
        refine G.lshl (v := shL (1 : Int64) ((63 : Int32) - x6)) C dX10_readsLetter_82 rfl ?_
        refine G.lor C dX10_readsLetter_83 ?_
        obtain ⟨x4_14, ex4_14, h⟩ := ltv_ex h
        refine G.lstore (L' := [(4, .long x4_14), (0, .ref (eA E 67)), (1, .int x1), (2, .long x2), (6, .int x6)]) C dX10_readsLetter_84 ex4_14 (by decide) rfl ?_
        obtain ⟨x6_15, ex6_15, h⟩ := ltv_ex h
        refine G.iinc (L' := [(6, .int x6_15), (4, .long x4_14), (0, .ref (eA E 67)), (1, .int x1), (2, .long x2)]) C 4 dX10_readsLetter_86 rfl (ex6_15.trans rfl) (by decide) rfl ?_
        refine G.goto (tgt := 33) C dX10_readsLetter_89 (by decide) ?_
        exact G.sub [2, 3, 4, 1, 0] rfl (hk_33 _ _ _ _ _  h)
def b_X10_readsLetter_67_33 : Nat → Int32 → Int64 → Int64 → Int32 → Mm → Option Mm
  | 0, _, _, _, _, _ => none
  | n + 1, x1, x2, x4, x6, M => bb_X10_readsLetter_67_33 (b_X10_readsLetter_67_33 n) x1 x2 x4 x6 M
set_option maxHeartbeats 4000000 in
theorem g_X10_readsLetter_67_33  {n : Nat} {x1 : Int32} {x2 : Int64} {x4 : Int64} {x6 : Int32} {M : Mm} {M' : Mm} (hE : Has shM (eH E)) (C : Cx RX10 cX10_readsLetter 7 p (rmD 4) s m args meth c E) (hr : meth.sig.returnType = none) (h : b_X10_readsLetter_67_33 n x1 x2 x4 x6 M = some M') : G p l e (rmD 4) s m args below meth c E 7 0 0 (QR below args s E 0 0 none M') 33 [(0, .ref (eA E 67)), (1, .int x1), (2, .long x2), (4, .long x4), (6, .int x6)] [] M := by
  induction n generalizing x1 x2 x4 x6 M with
  | zero => cases h
  | succ n ih => exact gb_X10_readsLetter_67_33 hE C hr (fun _ _ _ _ _ => ih)  h
def bb_X10_readsLetter_67_0 (x1 : Int32) (M : Mm) : Option Mm := if x1 = 0 then (b_X10_readsLetter_67_33 FU x1 (0 : Int64) (0 : Int64) (0 : Int32) M) else (bd2 (f_X10_numberHere_67 (0 : Int32) ((M.1 69 0) - (1 : Int32)) M) fun v_3 M_2 => gd (inb v_3 10) (ltv (M_2.2 71 (ix v_3)) fun x2_5 => b_X10_readsLetter_67_33 FU x1 x2_5 (0 : Int64) (0 : Int32) M_2))
set_option maxHeartbeats 4000000 in
set_option maxRecDepth 100000 in
theorem gb_X10_readsLetter_67_0  {x1 : Int32} {M : Mm} {M' : Mm} (hE : Has shM (eH E)) (C : Cx RX10 cX10_readsLetter 7 p (rmD 4) s m args meth c E) (hr : meth.sig.returnType = none) (h : bb_X10_readsLetter_67_0 x1 M = some M') : G p l e (rmD 4) s m args below meth c E 7 0 0 (QR below args s E 0 0 none M') 0 [(0, .ref (eA E 67)), (1, .int x1)] [] M := by
  unfold bb_X10_readsLetter_67_0 at h
  refine G.iload_n C 1 dX10_readsLetter_0 rfl rfl ?_
  refine G.if_ne (tgt := 8) C dX10_readsLetter_1 (by decide) (fun hc => ?_) (fun hc => ?_)
  · have h := it_f h hc
    refine G.aload_n C 0 dX10_readsLetter_8 rfl rfl ?_
    refine G.getR (k := 11) C k_X10 (sm_67 hE) rfl (by decide) tg_1442 dX10_readsLetter_9 ?_
    refine G.aload_n C 0 dX10_readsLetter_12 rfl rfl ?_
    refine G.iconst (v := (0 : Int32)) C dX10_readsLetter_13 (by decide) ?_
    refine G.aload_n C 0 dX10_readsLetter_14 rfl rfl ?_
    refine G.getR (k := 9) C k_X10 (sm_67 hE) rfl (by decide) tg_1440 dX10_readsLetter_15 ?_
    refine G.iconst (v := (0 : Int32)) C dX10_readsLetter_18 (by decide) ?_
    refine G.aI (j := 0) C (sm_69 hE) (by decide) (by decide) dX10_readsLetter_19 ?_
    refine G.iconst (v := (1 : Int32)) C dX10_readsLetter_20 (by decide) ?_
    refine G.isub C dX10_readsLetter_21 ?_
    obtain ⟨v_3, M_2, hv_1, h⟩ := bd2_ex h
    refine G.callV (rest := [.ref (eA E 71)]) C (s_X10_numberHere_67 hE  hv_1) ⟨tg_1643, tg_103, ok_X10_numberHere, Nat.le_of_ble_eq_true rfl, Nat.le_of_ble_eq_true rfl⟩ tg_1640 tg_1642 tg_56 (sm_67 hE) rfl rfl (Nat.le_of_ble_eq_true rfl) dX10_readsLetter_22 ⟨Nat.le_refl 0, Nat.le_refl 0⟩ ?_
    obtain ⟨hg_4, h⟩ := gd_ex h
    refine G.aJ (j := ix v_3) C (sm_71 hE) hg_4 rfl dX10_readsLetter_25 ?_
    obtain ⟨x2_5, ex2_5, h⟩ := ltv_ex h
    refine G.lstore_n (L' := [(2, .long x2_5), (0, .ref (eA E 67)), (1, .int x1)]) C dX10_readsLetter_26 rfl ex2_5 (by decide) rfl ?_
    refine G.lconst (v := (0 : Int64)) C dX10_readsLetter_27 (by decide) ?_
    refine G.lstore (L' := [(4, .long (0 : Int64)), (2, .long x2_5), (0, .ref (eA E 67)), (1, .int x1)]) C dX10_readsLetter_28 rfl (by decide) rfl ?_
    refine G.iconst (v := (0 : Int32)) C dX10_readsLetter_30 (by decide) ?_
    refine G.istore (L' := [(6, .int (0 : Int32)), (4, .long (0 : Int64)), (2, .long x2_5), (0, .ref (eA E 67)), (1, .int x1)]) C dX10_readsLetter_31 rfl (by decide) rfl ?_
    exact G.sub [3, 4, 2, 1, 0] rfl (g_X10_readsLetter_67_33 hE C hr  h)
  · have h := it_t h hc
    refine G.lconst (v := (0 : Int64)) C dX10_readsLetter_4 (by decide) ?_
    refine G.goto (tgt := 26) C dX10_readsLetter_5 (by decide) ?_
    refine G.lstore_n (L' := [(2, .long (0 : Int64)), (0, .ref (eA E 67)), (1, .int x1)]) C dX10_readsLetter_26 rfl rfl (by decide) rfl ?_
    refine G.lconst (v := (0 : Int64)) C dX10_readsLetter_27 (by decide) ?_
    refine G.lstore (L' := [(4, .long (0 : Int64)), (2, .long (0 : Int64)), (0, .ref (eA E 67)), (1, .int x1)]) C dX10_readsLetter_28 rfl (by decide) rfl ?_
    refine G.iconst (v := (0 : Int32)) C dX10_readsLetter_30 (by decide) ?_
    refine G.istore (L' := [(6, .int (0 : Int32)), (4, .long (0 : Int64)), (2, .long (0 : Int64)), (0, .ref (eA E 67)), (1, .int x1)]) C dX10_readsLetter_31 rfl (by decide) rfl ?_
    exact G.sub [3, 4, 2, 1, 0] rfl (g_X10_readsLetter_67_33 hE C hr  h)
def f_X10_readsLetter_67 (x1 : Int32) (M : Mm) : Option Mm := bb_X10_readsLetter_67_0 x1 M
theorem s_X10_readsLetter_67 {l : Launch} {E : Ev} {x1 : Int32} {M : Mm} {M' : Mm} (hE : Has shM (eH E)) (h : f_X10_readsLetter_67 x1 M = some M') : MetA l yX10_readsLetter cX10_readsLetter 7 none 4 E [.ref (eA E 67), .int x1] M none M' := by
  refine MetA.of (by decide +kernel) (Nat.le_of_ble_eq_true rfl) ?_
  intro p e s m below meth c C hr hnm
  exact G.sub [0, 1] rfl (gb_X10_readsLetter_67_0 hE C hr  h)
def bb_X10_clause_67_91 (x1 : Int32) (M : Mm) : Option Mm := if (M.1 67 5) = 0 then (bd (f_X10_skipWord_67 M) fun M_9 => ltv (wI M_9 67 7 ((M_9.1 67 7) + (1 : Int32))) fun M_10 => if (3 : Int32) ≤ x1 then (if (6 : Int32) ≤ x1 then (if x1 = (6 : Int32) then (bd (f_X10_readsWord_67 M_10) fun M_16 => bd (f_X10_sign_67 (59 : Int32) M_16) fun M_18 => some M_18) else (bd (f_X10_readsSpread_67 M_10) fun M_12 => bd (f_X10_sign_67 (59 : Int32) M_12) fun M_14 => some M_14)) else (bd (f_X10_readsBar_67 x1 M_10) fun M_20 => bd (f_X10_sign_67 (59 : Int32) M_20) fun M_22 => some M_22)) else (bd (f_X10_readsLetter_67 x1 M_10) fun M_24 => bd (f_X10_sign_67 (59 : Int32) M_24) fun M_26 => some M_26)) else (some M)
set_option maxHeartbeats 4000000 in
set_option maxRecDepth 100000 in
theorem gb_X10_clause_67_91  {x1 : Int32} {M : Mm} {M' : Mm} (hE : Has shM (eH E)) (C : Cx RX10 cX10_clause 2 p (rmD 6) s m args meth c E) (hr : meth.sig.returnType = none) (h : bb_X10_clause_67_91 x1 M = some M') : G p l e (rmD 6) s m args below meth c E 2 0 0 (QR below args s E 0 0 none M') 91 [(0, .ref (eA E 67)), (1, .int x1)] [] M := by
  unfold bb_X10_clause_67_91 at h
  refine G.aload_n C 0 dX10_clause_91 rfl rfl ?_
  refine G.getI (k := 5) C k_X10 (sm_67 hE) rfl (by decide) tg_1436 dX10_clause_92 ?_
  refine G.if_eq (tgt := 99) C dX10_clause_95 (by decide) (fun hc => ?_) (fun hc => ?_)
  · have h := it_t h hc
    refine G.aload_n C 0 dX10_clause_99 rfl rfl ?_
    obtain ⟨M_9, hv_8, h⟩ := bd_ex h
    refine G.callV (rest := []) C (s_X10_skipWord_67 hE  hv_8) ⟨tg_1635, tg_103, ok_X10_skipWord, Nat.le_of_ble_eq_true rfl, Nat.le_of_ble_eq_true rfl⟩ tg_1632 tg_1634 tg_54 (sm_67 hE) rfl rfl (Nat.le_of_ble_eq_true rfl) dX10_clause_100 ⟨Nat.le_refl 0, Nat.le_refl 0⟩ ?_
    refine G.aload_n C 0 dX10_clause_103 rfl rfl ?_
    refine G.dup C dX10_clause_104 rfl ?_
    refine G.getI (k := 7) C k_X10 (sm_67 hE) rfl (by decide) tg_1438 dX10_clause_105 ?_
    refine G.iconst (v := (1 : Int32)) C dX10_clause_108 (by decide) ?_
    refine G.iadd C dX10_clause_109 ?_
    obtain ⟨M_10, eM_10, h⟩ := ltv_ex h
    refine G.putI (k := 7) C k_X10 (sm_67 hE) rfl (by decide) tg_1438 rfl rfl dX10_clause_110 eM_10 ?_
    refine G.iload_n C 1 dX10_clause_113 rfl rfl ?_
    refine G.iconst (v := (3 : Int32)) C dX10_clause_114 (by decide) ?_
    refine G.icmp_ge (tgt := 126) C dX10_clause_115 (by decide) (fun hc => ?_) (fun hc => ?_)
    · have h := it_t h hc
      refine G.iload_n C 1 dX10_clause_126 rfl rfl ?_
      refine G.bipush (v := (6 : Int32)) C dX10_clause_127 (by decide) ?_
      refine G.icmp_ge (tgt := 140) C dX10_clause_129 (by decide) (fun hc => ?_) (fun hc => ?_)
      · have h := it_t h hc
        refine G.iload_n C 1 dX10_clause_140 rfl rfl ?_
        refine G.bipush (v := (6 : Int32)) C dX10_clause_141 (by decide) ?_
        refine G.icmp_ne (tgt := 153) C dX10_clause_143 (by decide) (fun hc => ?_) (fun hc => ?_)
        · have h := it_f h hc
          refine G.aload_n C 0 dX10_clause_153 rfl rfl ?_
          obtain ⟨M_12, hv_11, h⟩ := bd_ex h
          refine G.callV (rest := []) C (s_X10_readsSpread_67 hE  hv_11) ⟨tg_1663, tg_103, ok_X10_readsSpread, Nat.le_of_ble_eq_true rfl, Nat.le_of_ble_eq_true rfl⟩ tg_1660 tg_1662 tg_59 (sm_67 hE) rfl rfl (Nat.le_of_ble_eq_true rfl) dX10_clause_154 ⟨Nat.le_refl 0, Nat.le_refl 0⟩ ?_
          refine G.aload_n C 0 dX10_clause_157 rfl rfl ?_
          refine G.bipush (v := (59 : Int32)) C dX10_clause_158 (by decide) ?_
          obtain ⟨M_14, hv_13, h⟩ := bd_ex h
          refine G.callV (rest := []) C (s_X10_sign_67 hE  hv_13) ⟨tg_1667, tg_103, ok_X10_sign, Nat.le_of_ble_eq_true rfl, Nat.le_of_ble_eq_true rfl⟩ tg_1664 tg_1666 tg_60 (sm_67 hE) rfl rfl (Nat.le_of_ble_eq_true rfl) dX10_clause_160 ⟨Nat.le_refl 0, Nat.le_refl 0⟩ ?_
          cases h
          exact G.vret C hr dX10_clause_163
        · have h := it_t h hc
          refine G.aload_n C 0 dX10_clause_146 rfl rfl ?_
          obtain ⟨M_16, hv_15, h⟩ := bd_ex h
          refine G.callV (rest := []) C (s_X10_readsWord_67 hE  hv_15) ⟨tg_1659, tg_103, ok_X10_readsWord, Nat.le_of_ble_eq_true rfl, Nat.le_of_ble_eq_true rfl⟩ tg_1656 tg_1658 tg_58 (sm_67 hE) rfl rfl (Nat.le_of_ble_eq_true rfl) dX10_clause_147 ⟨Nat.le_refl 0, Nat.le_refl 0⟩ ?_
          refine G.goto (tgt := 157) C dX10_clause_150 (by decide) ?_
          refine G.aload_n C 0 dX10_clause_157 rfl rfl ?_
          refine G.bipush (v := (59 : Int32)) C dX10_clause_158 (by decide) ?_
          obtain ⟨M_18, hv_17, h⟩ := bd_ex h
          refine G.callV (rest := []) C (s_X10_sign_67 hE  hv_17) ⟨tg_1667, tg_103, ok_X10_sign, Nat.le_of_ble_eq_true rfl, Nat.le_of_ble_eq_true rfl⟩ tg_1664 tg_1666 tg_60 (sm_67 hE) rfl rfl (Nat.le_of_ble_eq_true rfl) dX10_clause_160 ⟨Nat.le_refl 0, Nat.le_refl 0⟩ ?_
          cases h
          exact G.vret C hr dX10_clause_163
      · have h := it_f h hc
        refine G.aload_n C 0 dX10_clause_132 rfl rfl ?_
        refine G.iload_n C 1 dX10_clause_133 rfl rfl ?_
        obtain ⟨M_20, hv_19, h⟩ := bd_ex h
        refine G.callV (rest := []) C (s_X10_readsBar_67 hE  hv_19) ⟨tg_1654, tg_103, ok_X10_readsBar, Nat.le_of_ble_eq_true rfl, Nat.le_of_ble_eq_true rfl⟩ tg_1651 tg_1653 tg_57 (sm_67 hE) rfl rfl (Nat.le_of_ble_eq_true rfl) dX10_clause_134 ⟨Nat.le_refl 0, Nat.le_refl 0⟩ ?_
        refine G.goto (tgt := 157) C dX10_clause_137 (by decide) ?_
        refine G.aload_n C 0 dX10_clause_157 rfl rfl ?_
        refine G.bipush (v := (59 : Int32)) C dX10_clause_158 (by decide) ?_
        obtain ⟨M_22, hv_21, h⟩ := bd_ex h
        refine G.callV (rest := []) C (s_X10_sign_67 hE  hv_21) ⟨tg_1667, tg_103, ok_X10_sign, Nat.le_of_ble_eq_true rfl, Nat.le_of_ble_eq_true rfl⟩ tg_1664 tg_1666 tg_60 (sm_67 hE) rfl rfl (Nat.le_of_ble_eq_true rfl) dX10_clause_160 ⟨Nat.le_refl 0, Nat.le_refl 0⟩ ?_
        cases h
        exact G.vret C hr dX10_clause_163
    · have h := it_f h hc
      refine G.aload_n C 0 dX10_clause_118 rfl rfl ?_
      refine G.iload_n C 1 dX10_clause_119 rfl rfl ?_
      obtain ⟨M_24, hv_23, h⟩ := bd_ex h
      refine G.callV (rest := []) C (s_X10_readsLetter_67 hE  hv_23) ⟨tg_1639, tg_103, ok_X10_readsLetter, Nat.le_of_ble_eq_true rfl, Nat.le_of_ble_eq_true rfl⟩ tg_1636 tg_1638 tg_55 (sm_67 hE) rfl rfl (Nat.le_of_ble_eq_true rfl) dX10_clause_120 ⟨Nat.le_refl 0, Nat.le_refl 0⟩ ?_
      refine G.goto (tgt := 157) C dX10_clause_123 (by decide) ?_
      refine G.aload_n C 0 dX10_clause_157 rfl rfl ?_
      refine G.bipush (v := (59 : Int32)) C dX10_clause_158 (by decide) ?_
      obtain ⟨M_26, hv_25, h⟩ := bd_ex h
      refine G.callV (rest := []) C (s_X10_sign_67 hE  hv_25) ⟨tg_1667, tg_103, ok_X10_sign, Nat.le_of_ble_eq_true rfl, Nat.le_of_ble_eq_true rfl⟩ tg_1664 tg_1666 tg_60 (sm_67 hE) rfl rfl (Nat.le_of_ble_eq_true rfl) dX10_clause_160 ⟨Nat.le_refl 0, Nat.le_refl 0⟩ ?_
      cases h
      exact G.vret C hr dX10_clause_163
  · have h := it_f h hc
    cases h
    exact G.vret C hr dX10_clause_98
def bb_X10_clause_67_28 (x1 : Int32) (M : Mm) : Option Mm := bd (f_X10_wrong_67 (1 : Int32) (M.1 67 4) M) fun M_7 => bb_X10_clause_67_91 x1 M_7
set_option maxHeartbeats 4000000 in
set_option maxRecDepth 100000 in
theorem gb_X10_clause_67_28  {x1 : Int32} {M : Mm} {M' : Mm} (hE : Has shM (eH E)) (C : Cx RX10 cX10_clause 2 p (rmD 6) s m args meth c E) (hr : meth.sig.returnType = none) (h : bb_X10_clause_67_28 x1 M = some M') : G p l e (rmD 6) s m args below meth c E 2 0 0 (QR below args s E 0 0 none M') 28 [(0, .ref (eA E 67)), (1, .int x1)] [] M := by
  unfold bb_X10_clause_67_28 at h
  refine G.aload_n C 0 dX10_clause_28 rfl rfl ?_
  refine G.iconst (v := (1 : Int32)) C dX10_clause_29 (by decide) ?_
  refine G.aload_n C 0 dX10_clause_30 rfl rfl ?_
  refine G.getI (k := 4) C k_X10 (sm_67 hE) rfl (by decide) tg_1435 dX10_clause_31 ?_
  obtain ⟨M_7, hv_6, h⟩ := bd_ex h
  refine G.callV (rest := []) C (s_X10_wrong_67 hE  hv_6) ⟨tg_1631, tg_103, ok_X10_wrong, Nat.le_of_ble_eq_true rfl, Nat.le_of_ble_eq_true rfl⟩ tg_1628 tg_1630 tg_53 (sm_67 hE) rfl rfl (Nat.le_of_ble_eq_true rfl) dX10_clause_34 ⟨Nat.le_refl 0, Nat.le_refl 0⟩ ?_
  refine G.goto (tgt := 91) C dX10_clause_37 (by decide) ?_
  exact G.sub [0, 1] rfl (gb_X10_clause_67_91 hE C hr  h)
def bb_X10_clause_67_82 (x1 : Int32) (M : Mm) : Option Mm := bd (f_X10_wrong_67 (3 : Int32) (M.1 67 4) M) fun M_28 => bb_X10_clause_67_91 x1 M_28
set_option maxHeartbeats 4000000 in
set_option maxRecDepth 100000 in
theorem gb_X10_clause_67_82  {x1 : Int32} {M : Mm} {M' : Mm} (hE : Has shM (eH E)) (C : Cx RX10 cX10_clause 2 p (rmD 6) s m args meth c E) (hr : meth.sig.returnType = none) (h : bb_X10_clause_67_82 x1 M = some M') : G p l e (rmD 6) s m args below meth c E 2 0 0 (QR below args s E 0 0 none M') 82 [(0, .ref (eA E 67)), (1, .int x1)] [] M := by
  unfold bb_X10_clause_67_82 at h
  refine G.aload_n C 0 dX10_clause_82 rfl rfl ?_
  refine G.iconst (v := (3 : Int32)) C dX10_clause_83 (by decide) ?_
  refine G.aload_n C 0 dX10_clause_84 rfl rfl ?_
  refine G.getI (k := 4) C k_X10 (sm_67 hE) rfl (by decide) tg_1435 dX10_clause_85 ?_
  obtain ⟨M_28, hv_27, h⟩ := bd_ex h
  refine G.callV (rest := []) C (s_X10_wrong_67 hE  hv_27) ⟨tg_1631, tg_103, ok_X10_wrong, Nat.le_of_ble_eq_true rfl, Nat.le_of_ble_eq_true rfl⟩ tg_1628 tg_1630 tg_53 (sm_67 hE) rfl rfl (Nat.le_of_ble_eq_true rfl) dX10_clause_88 ⟨Nat.le_refl 0, Nat.le_refl 0⟩ ?_
  exact G.sub [0, 1] rfl (gb_X10_clause_67_91 hE C hr  h)
def bb_X10_clause_67_65 (x1 : Int32) (M : Mm) : Option Mm := if x1 = (6 : Int32) then (if (M.1 69 1) = (6 : Int32) then (bb_X10_clause_67_82 x1 M) else (bb_X10_clause_67_91 x1 M)) else (bb_X10_clause_67_91 x1 M)
set_option maxHeartbeats 4000000 in
set_option maxRecDepth 100000 in
theorem gb_X10_clause_67_65  {x1 : Int32} {M : Mm} {M' : Mm} (hE : Has shM (eH E)) (C : Cx RX10 cX10_clause 2 p (rmD 6) s m args meth c E) (hr : meth.sig.returnType = none) (h : bb_X10_clause_67_65 x1 M = some M') : G p l e (rmD 6) s m args below meth c E 2 0 0 (QR below args s E 0 0 none M') 65 [(0, .ref (eA E 67)), (1, .int x1)] [] M := by
  unfold bb_X10_clause_67_65 at h
  refine G.iload_n C 1 dX10_clause_65 rfl rfl ?_
  refine G.bipush (v := (6 : Int32)) C dX10_clause_66 (by decide) ?_
  refine G.icmp_ne (tgt := 91) C dX10_clause_68 (by decide) (fun hc => ?_) (fun hc => ?_)
  · have h := it_f h hc
    exact G.sub [0, 1] rfl (gb_X10_clause_67_91 hE C hr  h)
  · have h := it_t h hc
    refine G.aload_n C 0 dX10_clause_71 rfl rfl ?_
    refine G.getR (k := 9) C k_X10 (sm_67 hE) rfl (by decide) tg_1440 dX10_clause_72 ?_
    refine G.iconst (v := (1 : Int32)) C dX10_clause_75 (by decide) ?_
    refine G.aI (j := 1) C (sm_69 hE) (by decide) (by decide) dX10_clause_76 ?_
    refine G.bipush (v := (6 : Int32)) C dX10_clause_77 (by decide) ?_
    refine G.icmp_ne (tgt := 91) C dX10_clause_79 (by decide) (fun hc => ?_) (fun hc => ?_)
    · have h := it_f h hc
      exact G.sub [0, 1] rfl (gb_X10_clause_67_91 hE C hr  h)
    · have h := it_t h hc
      exact G.sub [0, 1] rfl (gb_X10_clause_67_82 hE C hr  h)
def bb_X10_clause_67_40 (x1 : Int32) (M : Mm) : Option Mm := if (M.1 67 7) = (60 : Int32) then (bb_X10_clause_67_82 x1 M) else (if (3 : Int32) ≤ x1 then (bb_X10_clause_67_65 x1 M) else (if (M.1 69 0) = (10 : Int32) then (bb_X10_clause_67_82 x1 M) else (bb_X10_clause_67_65 x1 M)))
set_option maxHeartbeats 4000000 in
set_option maxRecDepth 100000 in
theorem gb_X10_clause_67_40  {x1 : Int32} {M : Mm} {M' : Mm} (hE : Has shM (eH E)) (C : Cx RX10 cX10_clause 2 p (rmD 6) s m args meth c E) (hr : meth.sig.returnType = none) (h : bb_X10_clause_67_40 x1 M = some M') : G p l e (rmD 6) s m args below meth c E 2 0 0 (QR below args s E 0 0 none M') 40 [(0, .ref (eA E 67)), (1, .int x1)] [] M := by
  unfold bb_X10_clause_67_40 at h
  refine G.aload_n C 0 dX10_clause_40 rfl rfl ?_
  refine G.getI (k := 7) C k_X10 (sm_67 hE) rfl (by decide) tg_1438 dX10_clause_41 ?_
  refine G.bipush (v := (60 : Int32)) C dX10_clause_44 (by decide) ?_
  refine G.icmp_eq (tgt := 82) C dX10_clause_46 (by decide) (fun hc => ?_) (fun hc => ?_)
  · have h := it_t h hc
    exact G.sub [0, 1] rfl (gb_X10_clause_67_82 hE C hr  h)
  · have h := it_f h hc
    refine G.iload_n C 1 dX10_clause_49 rfl rfl ?_
    refine G.iconst (v := (3 : Int32)) C dX10_clause_50 (by decide) ?_
    refine G.icmp_ge (tgt := 65) C dX10_clause_51 (by decide) (fun hc => ?_) (fun hc => ?_)
    · have h := it_t h hc
      exact G.sub [0, 1] rfl (gb_X10_clause_67_65 hE C hr  h)
    · have h := it_f h hc
      refine G.aload_n C 0 dX10_clause_54 rfl rfl ?_
      refine G.getR (k := 9) C k_X10 (sm_67 hE) rfl (by decide) tg_1440 dX10_clause_55 ?_
      refine G.iconst (v := (0 : Int32)) C dX10_clause_58 (by decide) ?_
      refine G.aI (j := 0) C (sm_69 hE) (by decide) (by decide) dX10_clause_59 ?_
      refine G.bipush (v := (10 : Int32)) C dX10_clause_60 (by decide) ?_
      refine G.icmp_eq (tgt := 82) C dX10_clause_62 (by decide) (fun hc => ?_) (fun hc => ?_)
      · have h := it_t h hc
        exact G.sub [0, 1] rfl (gb_X10_clause_67_82 hE C hr  h)
      · have h := it_f h hc
        exact G.sub [0, 1] rfl (gb_X10_clause_67_65 hE C hr  h)
def bb_X10_clause_67_0  (M : Mm) : Option Mm := bd2 (f_X10_kindHere_67 M) fun v_3 M_2 => if v_3 = (-1 : Int32) then (bb_X10_clause_67_28 v_3 M_2) else (bd (f_X10_in v_3 (3 : Int32) (5 : Int32)) fun v_5 => if v_5 = 0 then (bb_X10_clause_67_40 v_3 M_2) else (if (M_2.1 69 0) = 0 then (bb_X10_clause_67_28 v_3 M_2) else (bb_X10_clause_67_40 v_3 M_2)))
set_option maxHeartbeats 4000000 in
set_option maxRecDepth 100000 in
theorem gb_X10_clause_67_0   {M : Mm} {M' : Mm} (hE : Has shM (eH E)) (C : Cx RX10 cX10_clause 2 p (rmD 6) s m args meth c E) (hr : meth.sig.returnType = none) (h : bb_X10_clause_67_0 M = some M') : G p l e (rmD 6) s m args below meth c E 2 0 0 (QR below args s E 0 0 none M') 0 [(0, .ref (eA E 67))] [] M := by
  unfold bb_X10_clause_67_0 at h
  refine G.aload_n C 0 dX10_clause_0 rfl rfl ?_
  obtain ⟨v_3, M_2, hv_1, h⟩ := bd2_ex h
  refine G.callV (rest := []) C (s_X10_kindHere_67 hE  hv_1) ⟨tg_1616, tg_103, ok_X10_kindHere, Nat.le_of_ble_eq_true rfl, Nat.le_of_ble_eq_true rfl⟩ tg_1613 tg_1615 tg_50 (sm_67 hE) rfl rfl (Nat.le_of_ble_eq_true rfl) dX10_clause_1 ⟨Nat.le_refl 0, Nat.le_refl 0⟩ ?_
  refine G.istore_n (L' := [(1, .int v_3), (0, .ref (eA E 67))]) C dX10_clause_4 rfl rfl (by decide) rfl ?_
  refine G.iload_n C 0 dX10_clause_5 rfl rfl ?_
  refine G.iconst (v := (-1 : Int32)) C dX10_clause_6 (by decide) ?_
  refine G.icmp_eq (tgt := 28) C dX10_clause_7 (by decide) (fun hc => ?_) (fun hc => ?_)
  · have h := it_t h hc
    exact G.sub [1, 0] rfl (gb_X10_clause_67_28 hE C hr  h)
  · have h := it_f h hc
    refine G.iload_n C 0 dX10_clause_10 rfl rfl ?_
    refine G.iconst (v := (3 : Int32)) C dX10_clause_11 (by decide) ?_
    refine G.iconst (v := (5 : Int32)) C dX10_clause_12 (by decide) ?_
    obtain ⟨v_5, hv_4, h⟩ := bd_ex h
    refine G.callS (rest := []) C (s_X10_in  hv_4) ⟨tg_1596, tg_103, ok_X10_in, Nat.le_of_ble_eq_true rfl, Nat.le_of_ble_eq_true rfl⟩ tg_1594 tg_1595 rfl (Nat.le_of_ble_eq_true rfl) dX10_clause_13 ⟨Nat.le_refl 0, Nat.le_refl 0⟩ ?_
    refine G.if_eq (tgt := 40) C dX10_clause_16 (by decide) (fun hc => ?_) (fun hc => ?_)
    · have h := it_t h hc
      exact G.sub [1, 0] rfl (gb_X10_clause_67_40 hE C hr  h)
    · have h := it_f h hc
      refine G.aload_n C 1 dX10_clause_19 rfl rfl ?_
      refine G.getR (k := 9) C k_X10 (sm_67 hE) rfl (by decide) tg_1440 dX10_clause_20 ?_
      refine G.iconst (v := (0 : Int32)) C dX10_clause_23 (by decide) ?_
      refine G.aI (j := 0) C (sm_69 hE) (by decide) (by decide) dX10_clause_24 ?_
      refine G.if_ne (tgt := 40) C dX10_clause_25 (by decide) (fun hc => ?_) (fun hc => ?_)
      · have h := it_f h hc
        exact G.sub [1, 0] rfl (gb_X10_clause_67_40 hE C hr  h)
      · have h := it_t h hc
        exact G.sub [1, 0] rfl (gb_X10_clause_67_28 hE C hr  h)
def f_X10_clause_67  (M : Mm) : Option Mm := bb_X10_clause_67_0 M
theorem s_X10_clause_67 {l : Launch} {E : Ev}  {M : Mm} {M' : Mm} (hE : Has shM (eH E)) (h : f_X10_clause_67 M = some M') : MetA l yX10_clause cX10_clause 2 none 6 E [.ref (eA E 67)] M none M' := by
  refine MetA.of (by decide +kernel) (Nat.le_of_ble_eq_true rfl) ?_
  intro p e s m below meth c C hr hnm
  exact G.sub [0] rfl (gb_X10_clause_67_0 hE C hr  h)
def bb_X10_isOpen_12 (k_12 : Int64 → Int32 → Int32 → Int32 → Int32 → Option Int32) (x0 : Int64) (x3 : Int32) (x4 : Int32) (x5 : Int32) (x6 : Int32) : Option Int32 := bd (f_X10_in x5 (0 : Int32) (7 : Int32)) fun v_4 => if v_4 = 0 then (some (1 : Int32)) else (bd (f_X10_in x6 (0 : Int32) (7 : Int32)) fun v_6 => if v_6 = 0 then (some (1 : Int32)) else (bd (f_X10_is x0 (((8 : Int32) * x6) + x5)) fun v_8 => if v_8 = 0 then (ltv (x5 + x3) fun x5_9 => ltv (x6 + x4) fun x6_10 => k_12 x0 x3 x4 x5_9 x6_10) else (some (0 : Int32))))
set_option maxHeartbeats 4000000 in
set_option maxRecDepth 100000 in
theorem gb_X10_isOpen_12 {M : Mm}  {k_12 : Int64 → Int32 → Int32 → Int32 → Int32 → Option Int32} {x0 : Int64} {x3 : Int32} {x4 : Int32} {x5 : Int32} {x6 : Int32} {v : Int32} (C : Cx RX10 cX10_isOpen 7 p (rmD 2) s m args meth c E) (hr : meth.sig.returnType = (some .boolean)) (hk_12 : ∀ (x0 : Int64) (x3 : Int32) (x4 : Int32) (x5 : Int32) (x6 : Int32), k_12 x0 x3 x4 x5 x6 = some v → G p l e (rmD 2) s m args below meth c E 7 0 0 (QR below args s E 0 0 (some (.int v)) M) 12 [(0, .long x0), (3, .int x3), (4, .int x4), (5, .int x5), (6, .int x6)] [] M) (h : bb_X10_isOpen_12 k_12 x0 x3 x4 x5 x6 = some v) : G p l e (rmD 2) s m args below meth c E 7 0 0 (QR below args s E 0 0 (some (.int v)) M) 12 [(0, .long x0), (3, .int x3), (4, .int x4), (5, .int x5), (6, .int x6)] [] M := by
  unfold bb_X10_isOpen_12 at h
  refine G.iload C 3 dX10_isOpen_12 rfl ?_
  refine G.iconst (v := (0 : Int32)) C dX10_isOpen_14 (by decide) ?_
  refine G.bipush (v := (7 : Int32)) C dX10_isOpen_15 (by decide) ?_
  obtain ⟨v_4, hv_3, h⟩ := bd_ex h
  refine G.callS (rest := []) C (s_X10_in  hv_3) ⟨tg_1596, tg_103, ok_X10_in, Nat.le_of_ble_eq_true rfl, Nat.le_of_ble_eq_true rfl⟩ tg_1594 tg_1595 rfl (Nat.le_of_ble_eq_true rfl) dX10_isOpen_17 ⟨Nat.le_refl 0, Nat.le_refl 0⟩ ?_
  refine G.if_eq (tgt := 67) C dX10_isOpen_20 (by decide) (fun hc => ?_) (fun hc => ?_)
  · have h := it_t h hc
    refine G.iconst (v := (1 : Int32)) C dX10_isOpen_67 (by decide) ?_
    cases h
    exact G.zret C hr rfl dX10_isOpen_68
  · have h := it_f h hc
    refine G.iload C 4 dX10_isOpen_23 rfl ?_
    refine G.iconst (v := (0 : Int32)) C dX10_isOpen_25 (by decide) ?_
    refine G.bipush (v := (7 : Int32)) C dX10_isOpen_26 (by decide) ?_
    obtain ⟨v_6, hv_5, h⟩ := bd_ex h
    refine G.callS (rest := []) C (s_X10_in  hv_5) ⟨tg_1596, tg_103, ok_X10_in, Nat.le_of_ble_eq_true rfl, Nat.le_of_ble_eq_true rfl⟩ tg_1594 tg_1595 rfl (Nat.le_of_ble_eq_true rfl) dX10_isOpen_28 ⟨Nat.le_refl 0, Nat.le_refl 0⟩ ?_
    refine G.if_eq (tgt := 67) C dX10_isOpen_31 (by decide) (fun hc => ?_) (fun hc => ?_)
    · have h := it_t h hc
      refine G.iconst (v := (1 : Int32)) C dX10_isOpen_67 (by decide) ?_
      cases h
      exact G.zret C hr rfl dX10_isOpen_68
    · have h := it_f h hc
      refine G.lload_n C 0 dX10_isOpen_34 rfl rfl ?_
      refine G.bipush (v := (8 : Int32)) C dX10_isOpen_35 (by decide) ?_
      refine G.iload C 4 dX10_isOpen_37 rfl ?_
      refine G.imul C dX10_isOpen_39 ?_
      refine G.iload C 3 dX10_isOpen_40 rfl ?_
      refine G.iadd C dX10_isOpen_42 ?_
      obtain ⟨v_8, hv_7, h⟩ := bd_ex h
      refine G.callS (rest := []) C (s_X10_is  hv_7) ⟨tg_1650, tg_103, ok_X10_is, Nat.le_of_ble_eq_true rfl, Nat.le_of_ble_eq_true rfl⟩ tg_1648 tg_1649 rfl (Nat.le_of_ble_eq_true rfl) dX10_isOpen_43 ⟨Nat.le_refl 0, Nat.le_refl 0⟩ ?_
      refine G.if_eq (tgt := 51) C dX10_isOpen_46 (by decide) (fun hc => ?_) (fun hc => ?_)
      · have h := it_t h hc
        refine G.iload C 3 dX10_isOpen_51 rfl ?_
        refine G.iload_n C 1 dX10_isOpen_53 rfl rfl ?_
        refine G.iadd C dX10_isOpen_54 ?_
        obtain ⟨x5_9, ex5_9, h⟩ := ltv_ex h
        refine G.istore (L' := [(5, .int x5_9), (0, .long x0), (3, .int x3), (4, .int x4), (6, .int x6)]) C dX10_isOpen_55 ex5_9 (by decide) rfl ?_
        refine G.iload C 4 dX10_isOpen_57 rfl ?_
        refine G.iload C 3 dX10_isOpen_59 rfl ?_
        refine G.iadd C dX10_isOpen_61 ?_
        obtain ⟨x6_10, ex6_10, h⟩ := ltv_ex h
        refine G.istore (L' := [(6, .int x6_10), (5, .int x5_9), (0, .long x0), (3, .int x3), (4, .int x4)]) C dX10_isOpen_62 ex6_10 (by decide) rfl ?_
        refine G.goto (tgt := 12) C dX10_isOpen_64 (by decide) ?_
        exact G.sub [2, 3, 4, 1, 0] rfl (hk_12 _ _ _ _ _  h)
      · have h := it_f h hc
        refine G.iconst (v := (0 : Int32)) C dX10_isOpen_49 (by decide) ?_
        cases h
        exact G.zret C hr rfl dX10_isOpen_50
def b_X10_isOpen_12 : Nat → Int64 → Int32 → Int32 → Int32 → Int32 → Option Int32
  | 0, _, _, _, _, _ => none
  | n + 1, x0, x3, x4, x5, x6 => bb_X10_isOpen_12 (b_X10_isOpen_12 n) x0 x3 x4 x5 x6
set_option maxHeartbeats 4000000 in
theorem g_X10_isOpen_12 {M : Mm}  {n : Nat} {x0 : Int64} {x3 : Int32} {x4 : Int32} {x5 : Int32} {x6 : Int32} {v : Int32} (C : Cx RX10 cX10_isOpen 7 p (rmD 2) s m args meth c E) (hr : meth.sig.returnType = (some .boolean)) (h : b_X10_isOpen_12 n x0 x3 x4 x5 x6 = some v) : G p l e (rmD 2) s m args below meth c E 7 0 0 (QR below args s E 0 0 (some (.int v)) M) 12 [(0, .long x0), (3, .int x3), (4, .int x4), (5, .int x5), (6, .int x6)] [] M := by
  induction n generalizing x0 x3 x4 x5 x6 with
  | zero => cases h
  | succ n ih => exact gb_X10_isOpen_12 C hr (fun _ _ _ _ _ => ih)  h
def bb_X10_isOpen_0 (x0 : Int64) (x2 : Int32) (x3 : Int32) (x4 : Int32) : Option Int32 := ltv (rmI x2 (8 : Int32)) fun x5_1 => ltv (x2 / (8 : Int32)) fun x6_2 => b_X10_isOpen_12 FU x0 x3 x4 x5_1 x6_2
set_option maxHeartbeats 4000000 in
set_option maxRecDepth 100000 in
theorem gb_X10_isOpen_0 {M : Mm}  {x0 : Int64} {x2 : Int32} {x3 : Int32} {x4 : Int32} {v : Int32} (C : Cx RX10 cX10_isOpen 7 p (rmD 2) s m args meth c E) (hr : meth.sig.returnType = (some .boolean)) (h : bb_X10_isOpen_0 x0 x2 x3 x4 = some v) : G p l e (rmD 2) s m args below meth c E 7 0 0 (QR below args s E 0 0 (some (.int v)) M) 0 [(0, .long x0), (2, .int x2), (3, .int x3), (4, .int x4)] [] M := by
  unfold bb_X10_isOpen_0 at h
  refine G.iload_n C 1 dX10_isOpen_0 rfl rfl ?_
  refine G.bipush (v := (8 : Int32)) C dX10_isOpen_1 (by decide) ?_
  refine G.irm C dX10_isOpen_3 (by decide) ?_
  obtain ⟨x5_1, ex5_1, h⟩ := ltv_ex h
  refine G.istore (L' := [(5, .int x5_1), (0, .long x0), (2, .int x2), (3, .int x3), (4, .int x4)]) C dX10_isOpen_4 ex5_1 (by decide) rfl ?_
  refine G.iload_n C 2 dX10_isOpen_6 rfl rfl ?_
  refine G.bipush (v := (8 : Int32)) C dX10_isOpen_7 (by decide) ?_
  refine G.idiv C dX10_isOpen_9 (by decide) ?_
  obtain ⟨x6_2, ex6_2, h⟩ := ltv_ex h
  refine G.istore (L' := [(6, .int x6_2), (5, .int x5_1), (0, .long x0), (2, .int x2), (3, .int x3), (4, .int x4)]) C dX10_isOpen_10 ex6_2 (by decide) rfl ?_
  exact G.sub [2, 4, 5, 1, 0] rfl (g_X10_isOpen_12 C hr  h)
def f_X10_isOpen (x0 : Int64) (x2 : Int32) (x3 : Int32) (x4 : Int32) : Option Int32 := bb_X10_isOpen_0 x0 x2 x3 x4
theorem s_X10_isOpen {l : Launch} {E : Ev} {x0 : Int64} {x2 : Int32} {x3 : Int32} {x4 : Int32} {M : Mm} {v : Int32} (h : f_X10_isOpen x0 x2 x3 x4 = some v) : MetA l yX10_isOpen cX10_isOpen 7 (some .boolean) 2 E [.long x0, .int x2, .int x3, .int x4] M (some (.int v)) M := by
  refine MetA.of (by decide +kernel) (Nat.le_of_ble_eq_true rfl) ?_
  intro p e s m below meth c C hr hnm
  exact G.sub [0, 1, 2, 3] rfl (gb_X10_isOpen_0 C hr  h)
def bb_X10_reached_5 (k_5 : Int64 → Int64 → Int32 → Option Int64) (x0 : Int64) (x2 : Int64) (x4 : Int32) : Option Int64 := if (64 : Int32) ≤ x4 then (some x2) else (bd (f_X10_isOpen x0 x4 (1 : Int32) (0 : Int32)) fun v_2 => if v_2 = 0 then (bd (f_X10_isOpen x0 x4 (-1 : Int32) (0 : Int32)) fun v_6 => if v_6 = 0 then (bd (f_X10_isOpen x0 x4 (0 : Int32) (1 : Int32)) fun v_10 => if v_10 = 0 then (bd (f_X10_isOpen x0 x4 (0 : Int32) (-1 : Int32)) fun v_14 => if v_14 = 0 then (ltv (x4 + (1 : Int32)) fun x4_15 => k_5 x0 x2 x4_15) else (ltv (x2 ||| (shL (1 : Int64) x4)) fun x2_16 => ltv (x4 + (1 : Int32)) fun x4_17 => k_5 x0 x2_16 x4_17)) else (ltv (x2 ||| (shL (1 : Int64) x4)) fun x2_11 => ltv (x4 + (1 : Int32)) fun x4_12 => k_5 x0 x2_11 x4_12)) else (ltv (x2 ||| (shL (1 : Int64) x4)) fun x2_7 => ltv (x4 + (1 : Int32)) fun x4_8 => k_5 x0 x2_7 x4_8)) else (ltv (x2 ||| (shL (1 : Int64) x4)) fun x2_3 => ltv (x4 + (1 : Int32)) fun x4_4 => k_5 x0 x2_3 x4_4))
set_option maxHeartbeats 4000000 in
set_option maxRecDepth 100000 in
theorem gb_X10_reached_5 {M : Mm}  {k_5 : Int64 → Int64 → Int32 → Option Int64} {x0 : Int64} {x2 : Int64} {x4 : Int32} {v : Int64} (C : Cx RX10 cX10_reached 5 p (rmD 3) s m args meth c E) (hr : meth.sig.returnType = (some .long)) (hk_5 : ∀ (x0 : Int64) (x2 : Int64) (x4 : Int32), k_5 x0 x2 x4 = some v → G p l e (rmD 3) s m args below meth c E 5 0 0 (QR below args s E 0 0 (some (.long v)) M) 5 [(0, .long x0), (2, .long x2), (4, .int x4)] [] M) (h : bb_X10_reached_5 k_5 x0 x2 x4 = some v) : G p l e (rmD 3) s m args below meth c E 5 0 0 (QR below args s E 0 0 (some (.long v)) M) 5 [(0, .long x0), (2, .long x2), (4, .int x4)] [] M := by
  unfold bb_X10_reached_5 at h
  refine G.iload C 2 dX10_reached_5 rfl ?_
  refine G.bipush (v := (64 : Int32)) C dX10_reached_7 (by decide) ?_
  refine G.icmp_ge (tgt := 69) C dX10_reached_9 (by decide) (fun hc => ?_) (fun hc => ?_)
  · have h := it_t h hc
    refine G.lload_n C 1 dX10_reached_69 rfl rfl ?_
    cases h
    exact G.lret C hr dX10_reached_70
  · have h := it_f h hc
    refine G.lload_n C 0 dX10_reached_12 rfl rfl ?_
    refine G.iload C 2 dX10_reached_13 rfl ?_
    refine G.iconst (v := (1 : Int32)) C dX10_reached_15 (by decide) ?_
    refine G.iconst (v := (0 : Int32)) C dX10_reached_16 (by decide) ?_
    obtain ⟨v_2, hv_1, h⟩ := bd_ex h
    refine G.callS (rest := []) C (s_X10_isOpen  hv_1) ⟨tg_1680, tg_103, ok_X10_isOpen, Nat.le_of_ble_eq_true rfl, Nat.le_of_ble_eq_true rfl⟩ tg_1678 tg_1679 rfl (Nat.le_of_ble_eq_true rfl) dX10_reached_17 ⟨Nat.le_refl 0, Nat.le_refl 0⟩ ?_
    refine G.if_ne (tgt := 56) C dX10_reached_20 (by decide) (fun hc => ?_) (fun hc => ?_)
    · have h := it_f h hc
      refine G.lload_n C 1 dX10_reached_56 rfl rfl ?_
      refine G.lconst (v := (1 : Int64)) C dX10_reached_57 (by decide) ?_
      refine G.iload C 2 dX10_reached_58 rfl ?_
      refine G.lshl (v := shL (1 : Int64) x4) C dX10_reached_60 rfl ?_
      refine G.lor C dX10_reached_61 ?_
      obtain ⟨x2_3, ex2_3, h⟩ := ltv_ex h
      refine G.lstore_n (L' := [(2, .long x2_3), (0, .long x0), (4, .int x4)]) C dX10_reached_62 rfl ex2_3 (by decide) rfl ?_
      obtain ⟨x4_4, ex4_4, h⟩ := ltv_ex h
      refine G.iinc (L' := [(4, .int x4_4), (2, .long x2_3), (0, .long x0)]) C 2 dX10_reached_63 rfl (ex4_4.trans rfl) (by decide) rfl ?_
      refine G.goto (tgt := 5) C dX10_reached_66 (by decide) ?_
      exact G.sub [2, 1, 0] rfl (hk_5 _ _ _  h)
    · have h := it_t h hc
      refine G.lload_n C 0 dX10_reached_23 rfl rfl ?_
      refine G.iload C 2 dX10_reached_24 rfl ?_
      refine G.iconst (v := (-1 : Int32)) C dX10_reached_26 (by decide) ?_
      refine G.iconst (v := (0 : Int32)) C dX10_reached_27 (by decide) ?_
      obtain ⟨v_6, hv_5, h⟩ := bd_ex h
      refine G.callS (rest := []) C (s_X10_isOpen  hv_5) ⟨tg_1680, tg_103, ok_X10_isOpen, Nat.le_of_ble_eq_true rfl, Nat.le_of_ble_eq_true rfl⟩ tg_1678 tg_1679 rfl (Nat.le_of_ble_eq_true rfl) dX10_reached_28 ⟨Nat.le_refl 0, Nat.le_refl 0⟩ ?_
      refine G.if_ne (tgt := 56) C dX10_reached_31 (by decide) (fun hc => ?_) (fun hc => ?_)
      · have h := it_f h hc
        refine G.lload_n C 1 dX10_reached_56 rfl rfl ?_
        refine G.lconst (v := (1 : Int64)) C dX10_reached_57 (by decide) ?_
        refine G.iload C 2 dX10_reached_58 rfl ?_
        refine G.lshl (v := shL (1 : Int64) x4) C dX10_reached_60 rfl ?_
        refine G.lor C dX10_reached_61 ?_
        obtain ⟨x2_7, ex2_7, h⟩ := ltv_ex h
        refine G.lstore_n (L' := [(2, .long x2_7), (0, .long x0), (4, .int x4)]) C dX10_reached_62 rfl ex2_7 (by decide) rfl ?_
        obtain ⟨x4_8, ex4_8, h⟩ := ltv_ex h
        refine G.iinc (L' := [(4, .int x4_8), (2, .long x2_7), (0, .long x0)]) C 2 dX10_reached_63 rfl (ex4_8.trans rfl) (by decide) rfl ?_
        refine G.goto (tgt := 5) C dX10_reached_66 (by decide) ?_
        exact G.sub [2, 1, 0] rfl (hk_5 _ _ _  h)
      · have h := it_t h hc
        refine G.lload_n C 0 dX10_reached_34 rfl rfl ?_
        refine G.iload C 2 dX10_reached_35 rfl ?_
        refine G.iconst (v := (0 : Int32)) C dX10_reached_37 (by decide) ?_
        refine G.iconst (v := (1 : Int32)) C dX10_reached_38 (by decide) ?_
        obtain ⟨v_10, hv_9, h⟩ := bd_ex h
        refine G.callS (rest := []) C (s_X10_isOpen  hv_9) ⟨tg_1680, tg_103, ok_X10_isOpen, Nat.le_of_ble_eq_true rfl, Nat.le_of_ble_eq_true rfl⟩ tg_1678 tg_1679 rfl (Nat.le_of_ble_eq_true rfl) dX10_reached_39 ⟨Nat.le_refl 0, Nat.le_refl 0⟩ ?_
        refine G.if_ne (tgt := 56) C dX10_reached_42 (by decide) (fun hc => ?_) (fun hc => ?_)
        · have h := it_f h hc
          refine G.lload_n C 1 dX10_reached_56 rfl rfl ?_
          refine G.lconst (v := (1 : Int64)) C dX10_reached_57 (by decide) ?_
          refine G.iload C 2 dX10_reached_58 rfl ?_
          refine G.lshl (v := shL (1 : Int64) x4) C dX10_reached_60 rfl ?_
          refine G.lor C dX10_reached_61 ?_
          obtain ⟨x2_11, ex2_11, h⟩ := ltv_ex h
          refine G.lstore_n (L' := [(2, .long x2_11), (0, .long x0), (4, .int x4)]) C dX10_reached_62 rfl ex2_11 (by decide) rfl ?_
          obtain ⟨x4_12, ex4_12, h⟩ := ltv_ex h
          refine G.iinc (L' := [(4, .int x4_12), (2, .long x2_11), (0, .long x0)]) C 2 dX10_reached_63 rfl (ex4_12.trans rfl) (by decide) rfl ?_
          refine G.goto (tgt := 5) C dX10_reached_66 (by decide) ?_
          exact G.sub [2, 1, 0] rfl (hk_5 _ _ _  h)
        · have h := it_t h hc
          refine G.lload_n C 0 dX10_reached_45 rfl rfl ?_
          refine G.iload C 2 dX10_reached_46 rfl ?_
          refine G.iconst (v := (0 : Int32)) C dX10_reached_48 (by decide) ?_
          refine G.iconst (v := (-1 : Int32)) C dX10_reached_49 (by decide) ?_
          obtain ⟨v_14, hv_13, h⟩ := bd_ex h
          refine G.callS (rest := []) C (s_X10_isOpen  hv_13) ⟨tg_1680, tg_103, ok_X10_isOpen, Nat.le_of_ble_eq_true rfl, Nat.le_of_ble_eq_true rfl⟩ tg_1678 tg_1679 rfl (Nat.le_of_ble_eq_true rfl) dX10_reached_50 ⟨Nat.le_refl 0, Nat.le_refl 0⟩ ?_
          refine G.if_eq (tgt := 63) C dX10_reached_53 (by decide) (fun hc => ?_) (fun hc => ?_)
          · have h := it_t h hc
            obtain ⟨x4_15, ex4_15, h⟩ := ltv_ex h
            refine G.iinc (L' := [(4, .int x4_15), (0, .long x0), (2, .long x2)]) C 2 dX10_reached_63 rfl (ex4_15.trans rfl) (by decide) rfl ?_
            refine G.goto (tgt := 5) C dX10_reached_66 (by decide) ?_
            exact G.sub [1, 2, 0] rfl (hk_5 _ _ _  h)
          · have h := it_f h hc
            refine G.lload_n C 1 dX10_reached_56 rfl rfl ?_
            refine G.lconst (v := (1 : Int64)) C dX10_reached_57 (by decide) ?_
            refine G.iload C 2 dX10_reached_58 rfl ?_
            refine G.lshl (v := shL (1 : Int64) x4) C dX10_reached_60 rfl ?_
            refine G.lor C dX10_reached_61 ?_
            obtain ⟨x2_16, ex2_16, h⟩ := ltv_ex h
            refine G.lstore_n (L' := [(2, .long x2_16), (0, .long x0), (4, .int x4)]) C dX10_reached_62 rfl ex2_16 (by decide) rfl ?_
            obtain ⟨x4_17, ex4_17, h⟩ := ltv_ex h
            refine G.iinc (L' := [(4, .int x4_17), (2, .long x2_16), (0, .long x0)]) C 2 dX10_reached_63 rfl (ex4_17.trans rfl) (by decide) rfl ?_
            refine G.goto (tgt := 5) C dX10_reached_66 (by decide) ?_
            exact G.sub [2, 1, 0] rfl (hk_5 _ _ _  h)
def b_X10_reached_5 : Nat → Int64 → Int64 → Int32 → Option Int64
  | 0, _, _, _ => none
  | n + 1, x0, x2, x4 => bb_X10_reached_5 (b_X10_reached_5 n) x0 x2 x4
set_option maxHeartbeats 4000000 in
theorem g_X10_reached_5 {M : Mm}  {n : Nat} {x0 : Int64} {x2 : Int64} {x4 : Int32} {v : Int64} (C : Cx RX10 cX10_reached 5 p (rmD 3) s m args meth c E) (hr : meth.sig.returnType = (some .long)) (h : b_X10_reached_5 n x0 x2 x4 = some v) : G p l e (rmD 3) s m args below meth c E 5 0 0 (QR below args s E 0 0 (some (.long v)) M) 5 [(0, .long x0), (2, .long x2), (4, .int x4)] [] M := by
  induction n generalizing x0 x2 x4 with
  | zero => cases h
  | succ n ih => exact gb_X10_reached_5 C hr (fun _ _ _ => ih)  h
def bb_X10_reached_0 (x0 : Int64) : Option Int64 := b_X10_reached_5 FU x0 (0 : Int64) (0 : Int32)
set_option maxHeartbeats 4000000 in
set_option maxRecDepth 100000 in
theorem gb_X10_reached_0 {M : Mm}  {x0 : Int64} {v : Int64} (C : Cx RX10 cX10_reached 5 p (rmD 3) s m args meth c E) (hr : meth.sig.returnType = (some .long)) (h : bb_X10_reached_0 x0 = some v) : G p l e (rmD 3) s m args below meth c E 5 0 0 (QR below args s E 0 0 (some (.long v)) M) 0 [(0, .long x0)] [] M := by
  unfold bb_X10_reached_0 at h
  refine G.lconst (v := (0 : Int64)) C dX10_reached_0 (by decide) ?_
  refine G.lstore_n (L' := [(2, .long (0 : Int64)), (0, .long x0)]) C dX10_reached_1 rfl rfl (by decide) rfl ?_
  refine G.iconst (v := (0 : Int32)) C dX10_reached_2 (by decide) ?_
  refine G.istore (L' := [(4, .int (0 : Int32)), (2, .long (0 : Int64)), (0, .long x0)]) C dX10_reached_3 rfl (by decide) rfl ?_
  exact G.sub [2, 1, 0] rfl (g_X10_reached_5 C hr  h)
def f_X10_reached (x0 : Int64) : Option Int64 := bb_X10_reached_0 x0
theorem s_X10_reached {l : Launch} {E : Ev} {x0 : Int64} {M : Mm} {v : Int64} (h : f_X10_reached x0 = some v) : MetA l yX10_reached cX10_reached 5 (some .long) 3 E [.long x0] M (some (.long v)) M := by
  refine MetA.of (by decide +kernel) (Nat.le_of_ble_eq_true rfl) ?_
  intro p e s m below meth c C hr hnm
  exact G.sub [0] rfl (gb_X10_reached_0 C hr  h)
def bb_X10_hidden_0 (x0 : Int64) : Option Int64 := bd (f_X10_reached x0) fun v_2 => some ((x0 ||| v_2) ^^^ (-1 : Int64))
set_option maxHeartbeats 4000000 in
set_option maxRecDepth 100000 in
theorem gb_X10_hidden_0 {M : Mm}  {x0 : Int64} {v : Int64} (C : Cx RX10 cX10_hidden 2 p (rmD 4) s m args meth c E) (hr : meth.sig.returnType = (some .long)) (h : bb_X10_hidden_0 x0 = some v) : G p l e (rmD 4) s m args below meth c E 2 0 0 (QR below args s E 0 0 (some (.long v)) M) 0 [(0, .long x0)] [] M := by
  unfold bb_X10_hidden_0 at h
  refine G.lload_n C 0 dX10_hidden_0 rfl rfl ?_
  refine G.lload_n C 0 dX10_hidden_1 rfl rfl ?_
  obtain ⟨v_2, hv_1, h⟩ := bd_ex h
  refine G.callS (rest := [.long x0]) C (s_X10_reached  hv_1) ⟨tg_1677, tg_103, ok_X10_reached, Nat.le_of_ble_eq_true rfl, Nat.le_of_ble_eq_true rfl⟩ tg_1675 tg_1676 rfl (Nat.le_of_ble_eq_true rfl) dX10_hidden_2 ⟨Nat.le_refl 0, Nat.le_refl 0⟩ ?_
  refine G.lor C dX10_hidden_5 ?_
  refine G.ldc2 C tg_1655 dX10_hidden_6 ?_
  refine G.lxor C dX10_hidden_9 ?_
  cases h
  exact G.lret C hr dX10_hidden_10
def f_X10_hidden (x0 : Int64) : Option Int64 := bb_X10_hidden_0 x0
theorem s_X10_hidden {l : Launch} {E : Ev} {x0 : Int64} {M : Mm} {v : Int64} (h : f_X10_hidden x0 = some v) : MetA l yX10_hidden cX10_hidden 2 (some .long) 4 E [.long x0] M (some (.long v)) M := by
  refine MetA.of (by decide +kernel) (Nat.le_of_ble_eq_true rfl) ?_
  intro p e s m below meth c C hr hnm
  exact G.sub [0] rfl (gb_X10_hidden_0 C hr  h)
def bb_X10_beside_77 (k_5 : Int64 → Int64 → Int32 → Option Int64) (x0 : Int64) (x2 : Int64) (x4 : Int32) : Option Int64 := if (56 : Int32) ≤ x4 then (ltv (x4 + (1 : Int32)) fun x4_7 => k_5 x0 x2 x4_7) else (ltv (x2 ||| (shL (1 : Int64) (x4 + (8 : Int32)))) fun x2_8 => ltv (x4 + (1 : Int32)) fun x4_9 => k_5 x0 x2_8 x4_9)
set_option maxHeartbeats 4000000 in
set_option maxRecDepth 100000 in
theorem gb_X10_beside_77 {M : Mm}  {k_5 : Int64 → Int64 → Int32 → Option Int64} {x0 : Int64} {x2 : Int64} {x4 : Int32} {v : Int64} (C : Cx RX10 cX10_beside 5 p (rmD 2) s m args meth c E) (hr : meth.sig.returnType = (some .long)) (hk_5 : ∀ (x0 : Int64) (x2 : Int64) (x4 : Int32), k_5 x0 x2 x4 = some v → G p l e (rmD 2) s m args below meth c E 5 0 0 (QR below args s E 0 0 (some (.long v)) M) 5 [(0, .long x0), (2, .long x2), (4, .int x4)] [] M) (h : bb_X10_beside_77 k_5 x0 x2 x4 = some v) : G p l e (rmD 2) s m args below meth c E 5 0 0 (QR below args s E 0 0 (some (.long v)) M) 77 [(0, .long x0), (2, .long x2), (4, .int x4)] [] M := by
  unfold bb_X10_beside_77 at h
  refine G.iload C 2 dX10_beside_77 rfl ?_
  refine G.bipush (v := (56 : Int32)) C dX10_beside_79 (by decide) ?_
  refine G.icmp_ge (tgt := 94) C dX10_beside_81 (by decide) (fun hc => ?_) (fun hc => ?_)
  · have h := it_t h hc
    obtain ⟨x4_7, ex4_7, h⟩ := ltv_ex h
    refine G.iinc (L' := [(4, .int x4_7), (0, .long x0), (2, .long x2)]) C 2 dX10_beside_94 rfl (ex4_7.trans rfl) (by decide) rfl ?_
    refine G.goto (tgt := 5) C dX10_beside_97 (by decide) ?_
    exact G.sub [1, 2, 0] rfl (hk_5 _ _ _  h)
  · have h := it_f h hc
    refine G.lload_n C 1 dX10_beside_84 rfl rfl ?_
    refine G.lconst (v := (1 : Int64)) C dX10_beside_85 (by decide) ?_
    refine G.iload C 2 dX10_beside_86 rfl ?_
    refine G.bipush (v := (8 : Int32)) C dX10_beside_88 (by decide) ?_
    refine G.iadd C dX10_beside_90 ?_
    refine G.lshl (v := shL (1 : Int64) (x4 + (8 : Int32))) C dX10_beside_91 rfl ?_
    refine G.lor C dX10_beside_92 ?_
    obtain ⟨x2_8, ex2_8, h⟩ := ltv_ex h
    refine G.lstore_n (L' := [(2, .long x2_8), (0, .long x0), (4, .int x4)]) C dX10_beside_93 rfl ex2_8 (by decide) rfl ?_
    obtain ⟨x4_9, ex4_9, h⟩ := ltv_ex h
    refine G.iinc (L' := [(4, .int x4_9), (2, .long x2_8), (0, .long x0)]) C 2 dX10_beside_94 rfl (ex4_9.trans rfl) (by decide) rfl ?_
    refine G.goto (tgt := 5) C dX10_beside_97 (by decide) ?_
    exact G.sub [2, 1, 0] rfl (hk_5 _ _ _  h)
def bb_X10_beside_60 (k_5 : Int64 → Int64 → Int32 → Option Int64) (x0 : Int64) (x2 : Int64) (x4 : Int32) : Option Int64 := if x4 ≤ (7 : Int32) then (bb_X10_beside_77 k_5 x0 x2 x4) else (ltv (x2 ||| (shL (1 : Int64) (x4 - (8 : Int32)))) fun x2_6 => bb_X10_beside_77 k_5 x0 x2_6 x4)
set_option maxHeartbeats 4000000 in
set_option maxRecDepth 100000 in
theorem gb_X10_beside_60 {M : Mm}  {k_5 : Int64 → Int64 → Int32 → Option Int64} {x0 : Int64} {x2 : Int64} {x4 : Int32} {v : Int64} (C : Cx RX10 cX10_beside 5 p (rmD 2) s m args meth c E) (hr : meth.sig.returnType = (some .long)) (hk_5 : ∀ (x0 : Int64) (x2 : Int64) (x4 : Int32), k_5 x0 x2 x4 = some v → G p l e (rmD 2) s m args below meth c E 5 0 0 (QR below args s E 0 0 (some (.long v)) M) 5 [(0, .long x0), (2, .long x2), (4, .int x4)] [] M) (h : bb_X10_beside_60 k_5 x0 x2 x4 = some v) : G p l e (rmD 2) s m args below meth c E 5 0 0 (QR below args s E 0 0 (some (.long v)) M) 60 [(0, .long x0), (2, .long x2), (4, .int x4)] [] M := by
  unfold bb_X10_beside_60 at h
  refine G.iload C 2 dX10_beside_60 rfl ?_
  refine G.bipush (v := (7 : Int32)) C dX10_beside_62 (by decide) ?_
  refine G.icmp_le (tgt := 77) C dX10_beside_64 (by decide) (fun hc => ?_) (fun hc => ?_)
  · have h := it_t h hc
    exact G.sub [0, 1, 2] rfl (gb_X10_beside_77 C hr hk_5  h)
  · have h := it_f h hc
    refine G.lload_n C 1 dX10_beside_67 rfl rfl ?_
    refine G.lconst (v := (1 : Int64)) C dX10_beside_68 (by decide) ?_
    refine G.iload C 2 dX10_beside_69 rfl ?_
    refine G.bipush (v := (8 : Int32)) C dX10_beside_71 (by decide) ?_
    refine G.isub C dX10_beside_73 ?_
    refine G.lshl (v := shL (1 : Int64) (x4 - (8 : Int32))) C dX10_beside_74 rfl ?_
    refine G.lor C dX10_beside_75 ?_
    obtain ⟨x2_6, ex2_6, h⟩ := ltv_ex h
    refine G.lstore_n (L' := [(2, .long x2_6), (0, .long x0), (4, .int x4)]) C dX10_beside_76 rfl ex2_6 (by decide) rfl ?_
    exact G.sub [1, 0, 2] rfl (gb_X10_beside_77 C hr hk_5  h)
def bb_X10_beside_41 (k_5 : Int64 → Int64 → Int32 → Option Int64) (x0 : Int64) (x2 : Int64) (x4 : Int32) : Option Int64 := if (7 : Int32) ≤ (rmI x4 (8 : Int32)) then (bb_X10_beside_60 k_5 x0 x2 x4) else (ltv (x2 ||| (shL (1 : Int64) (x4 + (1 : Int32)))) fun x2_5 => bb_X10_beside_60 k_5 x0 x2_5 x4)
set_option maxHeartbeats 4000000 in
set_option maxRecDepth 100000 in
theorem gb_X10_beside_41 {M : Mm}  {k_5 : Int64 → Int64 → Int32 → Option Int64} {x0 : Int64} {x2 : Int64} {x4 : Int32} {v : Int64} (C : Cx RX10 cX10_beside 5 p (rmD 2) s m args meth c E) (hr : meth.sig.returnType = (some .long)) (hk_5 : ∀ (x0 : Int64) (x2 : Int64) (x4 : Int32), k_5 x0 x2 x4 = some v → G p l e (rmD 2) s m args below meth c E 5 0 0 (QR below args s E 0 0 (some (.long v)) M) 5 [(0, .long x0), (2, .long x2), (4, .int x4)] [] M) (h : bb_X10_beside_41 k_5 x0 x2 x4 = some v) : G p l e (rmD 2) s m args below meth c E 5 0 0 (QR below args s E 0 0 (some (.long v)) M) 41 [(0, .long x0), (2, .long x2), (4, .int x4)] [] M := by
  unfold bb_X10_beside_41 at h
  refine G.iload C 2 dX10_beside_41 rfl ?_
  refine G.bipush (v := (8 : Int32)) C dX10_beside_43 (by decide) ?_
  refine G.irm C dX10_beside_45 (by decide) ?_
  refine G.bipush (v := (7 : Int32)) C dX10_beside_46 (by decide) ?_
  refine G.icmp_ge (tgt := 60) C dX10_beside_48 (by decide) (fun hc => ?_) (fun hc => ?_)
  · have h := it_t h hc
    exact G.sub [0, 1, 2] rfl (gb_X10_beside_60 C hr hk_5  h)
  · have h := it_f h hc
    refine G.lload_n C 1 dX10_beside_51 rfl rfl ?_
    refine G.lconst (v := (1 : Int64)) C dX10_beside_52 (by decide) ?_
    refine G.iload C 2 dX10_beside_53 rfl ?_
    refine G.iconst (v := (1 : Int32)) C dX10_beside_55 (by decide) ?_
    refine G.iadd C dX10_beside_56 ?_
    refine G.lshl (v := shL (1 : Int64) (x4 + (1 : Int32))) C dX10_beside_57 rfl ?_
    refine G.lor C dX10_beside_58 ?_
    obtain ⟨x2_5, ex2_5, h⟩ := ltv_ex h
    refine G.lstore_n (L' := [(2, .long x2_5), (0, .long x0), (4, .int x4)]) C dX10_beside_59 rfl ex2_5 (by decide) rfl ?_
    exact G.sub [1, 0, 2] rfl (gb_X10_beside_60 C hr hk_5  h)
def bb_X10_beside_5 (k_5 : Int64 → Int64 → Int32 → Option Int64) (x0 : Int64) (x2 : Int64) (x4 : Int32) : Option Int64 := if (64 : Int32) ≤ x4 then (some x2) else (bd (f_X10_is x0 x4) fun v_2 => if v_2 = 0 then (ltv (x4 + (1 : Int32)) fun x4_4 => k_5 x0 x2 x4_4) else (if (rmI x4 (8 : Int32)) ≤ 0 then (bb_X10_beside_41 k_5 x0 x2 x4) else (ltv (x2 ||| (shL (1 : Int64) (x4 - (1 : Int32)))) fun x2_3 => bb_X10_beside_41 k_5 x0 x2_3 x4)))
set_option maxHeartbeats 4000000 in
set_option maxRecDepth 100000 in
theorem gb_X10_beside_5 {M : Mm}  {k_5 : Int64 → Int64 → Int32 → Option Int64} {x0 : Int64} {x2 : Int64} {x4 : Int32} {v : Int64} (C : Cx RX10 cX10_beside 5 p (rmD 2) s m args meth c E) (hr : meth.sig.returnType = (some .long)) (hk_5 : ∀ (x0 : Int64) (x2 : Int64) (x4 : Int32), k_5 x0 x2 x4 = some v → G p l e (rmD 2) s m args below meth c E 5 0 0 (QR below args s E 0 0 (some (.long v)) M) 5 [(0, .long x0), (2, .long x2), (4, .int x4)] [] M) (h : bb_X10_beside_5 k_5 x0 x2 x4 = some v) : G p l e (rmD 2) s m args below meth c E 5 0 0 (QR below args s E 0 0 (some (.long v)) M) 5 [(0, .long x0), (2, .long x2), (4, .int x4)] [] M := by
  unfold bb_X10_beside_5 at h
  refine G.iload C 2 dX10_beside_5 rfl ?_
  refine G.bipush (v := (64 : Int32)) C dX10_beside_7 (by decide) ?_
  refine G.icmp_ge (tgt := 100) C dX10_beside_9 (by decide) (fun hc => ?_) (fun hc => ?_)
  · have h := it_t h hc
    refine G.lload_n C 1 dX10_beside_100 rfl rfl ?_
    cases h
    exact G.lret C hr dX10_beside_101
  · have h := it_f h hc
    refine G.lload_n C 0 dX10_beside_12 rfl rfl ?_
    refine G.iload C 2 dX10_beside_13 rfl ?_
    obtain ⟨v_2, hv_1, h⟩ := bd_ex h
    refine G.callS (rest := []) C (s_X10_is  hv_1) ⟨tg_1650, tg_103, ok_X10_is, Nat.le_of_ble_eq_true rfl, Nat.le_of_ble_eq_true rfl⟩ tg_1648 tg_1649 rfl (Nat.le_of_ble_eq_true rfl) dX10_beside_15 ⟨Nat.le_refl 0, Nat.le_refl 0⟩ ?_
    refine G.if_ne (tgt := 24) C dX10_beside_18 (by decide) (fun hc => ?_) (fun hc => ?_)
    · have h := it_f h hc
      refine G.iload C 2 dX10_beside_24 rfl ?_
      refine G.bipush (v := (8 : Int32)) C dX10_beside_26 (by decide) ?_
      refine G.irm C dX10_beside_28 (by decide) ?_
      refine G.if_le (tgt := 41) C dX10_beside_29 (by decide) (fun hc => ?_) (fun hc => ?_)
      · have h := it_t h hc
        exact G.sub [0, 1, 2] rfl (gb_X10_beside_41 C hr hk_5  h)
      · have h := it_f h hc
        refine G.lload_n C 1 dX10_beside_32 rfl rfl ?_
        refine G.lconst (v := (1 : Int64)) C dX10_beside_33 (by decide) ?_
        refine G.iload C 2 dX10_beside_34 rfl ?_
        refine G.iconst (v := (1 : Int32)) C dX10_beside_36 (by decide) ?_
        refine G.isub C dX10_beside_37 ?_
        refine G.lshl (v := shL (1 : Int64) (x4 - (1 : Int32))) C dX10_beside_38 rfl ?_
        refine G.lor C dX10_beside_39 ?_
        obtain ⟨x2_3, ex2_3, h⟩ := ltv_ex h
        refine G.lstore_n (L' := [(2, .long x2_3), (0, .long x0), (4, .int x4)]) C dX10_beside_40 rfl ex2_3 (by decide) rfl ?_
        exact G.sub [1, 0, 2] rfl (gb_X10_beside_41 C hr hk_5  h)
    · have h := it_t h hc
      refine G.goto (tgt := 94) C dX10_beside_21 (by decide) ?_
      obtain ⟨x4_4, ex4_4, h⟩ := ltv_ex h
      refine G.iinc (L' := [(4, .int x4_4), (0, .long x0), (2, .long x2)]) C 2 dX10_beside_94 rfl (ex4_4.trans rfl) (by decide) rfl ?_
      refine G.goto (tgt := 5) C dX10_beside_97 (by decide) ?_
      exact G.sub [1, 2, 0] rfl (hk_5 _ _ _  h)
def b_X10_beside_5 : Nat → Int64 → Int64 → Int32 → Option Int64
  | 0, _, _, _ => none
  | n + 1, x0, x2, x4 => bb_X10_beside_5 (b_X10_beside_5 n) x0 x2 x4
set_option maxHeartbeats 4000000 in
theorem g_X10_beside_5 {M : Mm}  {n : Nat} {x0 : Int64} {x2 : Int64} {x4 : Int32} {v : Int64} (C : Cx RX10 cX10_beside 5 p (rmD 2) s m args meth c E) (hr : meth.sig.returnType = (some .long)) (h : b_X10_beside_5 n x0 x2 x4 = some v) : G p l e (rmD 2) s m args below meth c E 5 0 0 (QR below args s E 0 0 (some (.long v)) M) 5 [(0, .long x0), (2, .long x2), (4, .int x4)] [] M := by
  induction n generalizing x0 x2 x4 with
  | zero => cases h
  | succ n ih => exact gb_X10_beside_5 C hr (fun _ _ _ => ih)  h
def bb_X10_beside_0 (x0 : Int64) : Option Int64 := b_X10_beside_5 FU x0 (0 : Int64) (0 : Int32)
set_option maxHeartbeats 4000000 in
set_option maxRecDepth 100000 in
theorem gb_X10_beside_0 {M : Mm}  {x0 : Int64} {v : Int64} (C : Cx RX10 cX10_beside 5 p (rmD 2) s m args meth c E) (hr : meth.sig.returnType = (some .long)) (h : bb_X10_beside_0 x0 = some v) : G p l e (rmD 2) s m args below meth c E 5 0 0 (QR below args s E 0 0 (some (.long v)) M) 0 [(0, .long x0)] [] M := by
  unfold bb_X10_beside_0 at h
  refine G.lconst (v := (0 : Int64)) C dX10_beside_0 (by decide) ?_
  refine G.lstore_n (L' := [(2, .long (0 : Int64)), (0, .long x0)]) C dX10_beside_1 rfl rfl (by decide) rfl ?_
  refine G.iconst (v := (0 : Int32)) C dX10_beside_2 (by decide) ?_
  refine G.istore (L' := [(4, .int (0 : Int32)), (2, .long (0 : Int64)), (0, .long x0)]) C dX10_beside_3 rfl (by decide) rfl ?_
  exact G.sub [2, 1, 0] rfl (g_X10_beside_5 C hr  h)
def f_X10_beside (x0 : Int64) : Option Int64 := bb_X10_beside_0 x0
theorem s_X10_beside {l : Launch} {E : Ev} {x0 : Int64} {M : Mm} {v : Int64} (h : f_X10_beside x0 = some v) : MetA l yX10_beside cX10_beside 5 (some .long) 2 E [.long x0] M (some (.long v)) M := by
  refine MetA.of (by decide +kernel) (Nat.le_of_ble_eq_true rfl) ?_
  intro p e s m below meth c C hr hnm
  exact G.sub [0] rfl (gb_X10_beside_0 C hr  h)
def bb_X10_findHollows_67_58 (k_30 : Int32 → Int64 → Int32 → Mm → Option Mm) (k_58 : Int32 → Int64 → Int32 → Int64 → Int64 → Mm → Option Mm) (x1 : Int32) (x2 : Int64) (x4 : Int32) (x5 : Int64) (x7 : Int64) (M : Mm) : Option Mm := if x5 = x7 then (ltv (x2 &&& (x5 ^^^ (-1 : Int64))) fun x2_10 => if (M.1 67 19) = (16 : Int32) then (ltv (x4 + (1 : Int32)) fun x4_17 => k_30 x1 x2_10 x4_17 M) else (gd (inb (M.1 67 19) 16) (ltv (wJ M 91 (ix (M.1 67 19)) x5) fun M_12 => gd (inb (M_12.1 67 19) 16) (ltv (wI M_12 92 (ix (M_12.1 67 19)) x1) fun M_14 => ltv (wI M_14 67 19 ((M_14.1 67 19) + (1 : Int32))) fun M_15 => ltv (x4 + (1 : Int32)) fun x4_16 => k_30 x1 x2_10 x4_16 M_15)))) else (bd (f_X10_beside x5) fun v_19 => ltv (x5 ||| (v_19 &&& x2)) fun x5_20 => k_58 x1 x2 x4 x5_20 x5 M)
set_option maxHeartbeats 4000000 in
set_option maxRecDepth 100000 in
theorem gb_X10_findHollows_67_58  {k_30 : Int32 → Int64 → Int32 → Mm → Option Mm} {k_58 : Int32 → Int64 → Int32 → Int64 → Int64 → Mm → Option Mm} {x1 : Int32} {x2 : Int64} {x4 : Int32} {x5 : Int64} {x7 : Int64} {M : Mm} {M' : Mm} (hE : Has shM (eH E)) (C : Cx RX10 cX10_findHollows 9 p (rmD 5) s m args meth c E) (hr : meth.sig.returnType = none) (hk_30 : ∀ (x1 : Int32) (x2 : Int64) (x4 : Int32) (M : Mm), k_30 x1 x2 x4 M = some M' → G p l e (rmD 5) s m args below meth c E 9 0 0 (QR below args s E 0 0 none M') 30 [(0, .ref (eA E 67)), (1, .int x1), (2, .long x2), (4, .int x4)] [] M) (hk_58 : ∀ (x1 : Int32) (x2 : Int64) (x4 : Int32) (x5 : Int64) (x7 : Int64) (M : Mm), k_58 x1 x2 x4 x5 x7 M = some M' → G p l e (rmD 5) s m args below meth c E 9 0 0 (QR below args s E 0 0 none M') 58 [(0, .ref (eA E 67)), (1, .int x1), (2, .long x2), (4, .int x4), (5, .long x5), (7, .long x7)] [] M) (h : bb_X10_findHollows_67_58 k_30 k_58 x1 x2 x4 x5 x7 M = some M') : G p l e (rmD 5) s m args below meth c E 9 0 0 (QR below args s E 0 0 none M') 58 [(0, .ref (eA E 67)), (1, .int x1), (2, .long x2), (4, .int x4), (5, .long x5), (7, .long x7)] [] M := by
  unfold bb_X10_findHollows_67_58 at h
  refine G.lload C 4 dX10_findHollows_58 rfl ?_
  refine G.lload C 5 dX10_findHollows_60 rfl ?_
  refine G.lcmp C dX10_findHollows_62 (G.if_eq (tgt := 85) C dX10_findHollows_63 (by decide) (fun hc => ?_) (fun hc => ?_))
  · have h := it_t h (lgc_eq.mp hc)
    refine G.lload_n C 2 dX10_findHollows_85 rfl rfl ?_
    refine G.lload C 4 dX10_findHollows_86 rfl ?_
    refine G.ldc2 C tg_1655 dX10_findHollows_88 ?_
    refine G.lxor C dX10_findHollows_91 ?_
    refine G.land C dX10_findHollows_92 ?_
    obtain ⟨x2_10, ex2_10, h⟩ := ltv_ex h
    refine G.lstore_n (L' := [(2, .long x2_10), (0, .ref (eA E 67)), (1, .int x1), (4, .int x4), (5, .long x5), (7, .long x7)]) C dX10_findHollows_93 rfl ex2_10 (by decide) rfl ?_
    refine G.aload_n C 1 dX10_findHollows_94 rfl rfl ?_
    refine G.getI (k := 19) C k_X10 (sm_67 hE) rfl (by decide) tg_1450 dX10_findHollows_95 ?_
    refine G.bipush (v := (16 : Int32)) C dX10_findHollows_98 (by decide) ?_
    refine G.icmp_ne (tgt := 106) C dX10_findHollows_100 (by decide) (fun hc => ?_) (fun hc => ?_)
    · have h := it_f h hc
      refine G.aload_n C 1 dX10_findHollows_106 rfl rfl ?_
      refine G.getR (k := 20) C k_X10 (sm_67 hE) rfl (by decide) tg_1451 dX10_findHollows_107 ?_
      refine G.aload_n C 1 dX10_findHollows_110 rfl rfl ?_
      refine G.getI (k := 19) C k_X10 (sm_67 hE) rfl (by decide) tg_1450 dX10_findHollows_111 ?_
      refine G.lload C 4 dX10_findHollows_114 rfl ?_
      obtain ⟨hg_11, h⟩ := gd_ex h
      obtain ⟨M_12, eM_12, h⟩ := ltv_ex h
      refine G.sJ (j := (ix (M.1 67 19))) C (sm_91 hE) hg_11 rfl dX10_findHollows_116 eM_12 ?_
      refine G.aload_n C 1 dX10_findHollows_117 rfl rfl ?_
      refine G.getR (k := 21) C k_X10 (sm_67 hE) rfl (by decide) tg_1452 dX10_findHollows_118 ?_
      refine G.aload_n C 1 dX10_findHollows_121 rfl rfl ?_
      refine G.getI (k := 19) C k_X10 (sm_67 hE) rfl (by decide) tg_1450 dX10_findHollows_122 ?_
      refine G.iload_n C 2 dX10_findHollows_125 rfl rfl ?_
      obtain ⟨hg_13, h⟩ := gd_ex h
      obtain ⟨M_14, eM_14, h⟩ := ltv_ex h
      refine G.sI (j := (ix (M_12.1 67 19))) C (sm_92 hE) hg_13 rfl dX10_findHollows_126 eM_14 ?_
      refine G.aload_n C 1 dX10_findHollows_127 rfl rfl ?_
      refine G.dup C dX10_findHollows_128 rfl ?_
      refine G.getI (k := 19) C k_X10 (sm_67 hE) rfl (by decide) tg_1450 dX10_findHollows_129 ?_
      refine G.iconst (v := (1 : Int32)) C dX10_findHollows_132 (by decide) ?_
      refine G.iadd C dX10_findHollows_133 ?_
      obtain ⟨M_15, eM_15, h⟩ := ltv_ex h
      refine G.putI (k := 19) C k_X10 (sm_67 hE) rfl (by decide) tg_1450 rfl rfl dX10_findHollows_134 eM_15 ?_
      obtain ⟨x4_16, ex4_16, h⟩ := ltv_ex h
      refine G.iinc (L' := [(4, .int x4_16), (2, .long x2_10), (0, .ref (eA E 67)), (1, .int x1), (5, .long x5), (7, .long x7)]) C 3 dX10_findHollows_137 rfl (ex4_16.trans rfl) (by decide) rfl ?_
      refine G.goto (tgt := 30) C dX10_findHollows_140 (by decide) ?_
      exact G.sub [2, 3, 1, 0] rfl (hk_30 _ _ _ _  h)
    · have h := it_t h hc
      refine G.goto (tgt := 137) C dX10_findHollows_103 (by decide) ?_
      obtain ⟨x4_17, ex4_17, h⟩ := ltv_ex h
      refine G.iinc (L' := [(4, .int x4_17), (2, .long x2_10), (0, .ref (eA E 67)), (1, .int x1), (5, .long x5), (7, .long x7)]) C 3 dX10_findHollows_137 rfl (ex4_17.trans rfl) (by decide) rfl ?_
      refine G.goto (tgt := 30) C dX10_findHollows_140 (by decide) ?_
      exact G.sub [2, 3, 1, 0] rfl (hk_30 _ _ _ _  h)
  · have h := it_f h ((not_congr lgc_eq).mp hc)
    refine G.lload C 4 dX10_findHollows_66 rfl ?_
    refine G.lstore (L' := [(7, .long x5), (0, .ref (eA E 67)), (1, .int x1), (2, .long x2), (4, .int x4), (5, .long x5)]) C dX10_findHollows_68 rfl (by decide) rfl ?_
    refine G.lload C 5 dX10_findHollows_70 rfl ?_
    refine G.lload C 5 dX10_findHollows_72 rfl ?_
    obtain ⟨v_19, hv_18, h⟩ := bd_ex h
    refine G.callS (rest := [.long x5]) C (s_X10_beside  hv_18) ⟨tg_1683, tg_103, ok_X10_beside, Nat.le_of_ble_eq_true rfl, Nat.le_of_ble_eq_true rfl⟩ tg_1681 tg_1682 rfl (Nat.le_of_ble_eq_true rfl) dX10_findHollows_74 ⟨Nat.le_refl 0, Nat.le_refl 0⟩ ?_
    refine G.lload_n C 3 dX10_findHollows_77 rfl rfl ?_
    refine G.land C dX10_findHollows_78 ?_
    refine G.lor C dX10_findHollows_79 ?_
    obtain ⟨x5_20, ex5_20, h⟩ := ltv_ex h
    refine G.lstore (L' := [(5, .long x5_20), (7, .long x5), (0, .ref (eA E 67)), (1, .int x1), (2, .long x2), (4, .int x4)]) C dX10_findHollows_80 ex5_20 (by decide) rfl ?_
    refine G.goto (tgt := 58) C dX10_findHollows_82 (by decide) ?_
    exact G.sub [2, 3, 4, 5, 0, 1] rfl (hk_58 _ _ _ _ _ _  h)
def b_X10_findHollows_67_58 (k_30 : Int32 → Int64 → Int32 → Mm → Option Mm) : Nat → Int32 → Int64 → Int32 → Int64 → Int64 → Mm → Option Mm
  | 0, _, _, _, _, _, _ => none
  | n + 1, x1, x2, x4, x5, x7, M => bb_X10_findHollows_67_58 k_30 (b_X10_findHollows_67_58 k_30 n) x1 x2 x4 x5 x7 M
set_option maxHeartbeats 4000000 in
theorem g_X10_findHollows_67_58  {k_30 : Int32 → Int64 → Int32 → Mm → Option Mm} {n : Nat} {x1 : Int32} {x2 : Int64} {x4 : Int32} {x5 : Int64} {x7 : Int64} {M : Mm} {M' : Mm} (hE : Has shM (eH E)) (C : Cx RX10 cX10_findHollows 9 p (rmD 5) s m args meth c E) (hr : meth.sig.returnType = none) (hk_30 : ∀ (x1 : Int32) (x2 : Int64) (x4 : Int32) (M : Mm), k_30 x1 x2 x4 M = some M' → G p l e (rmD 5) s m args below meth c E 9 0 0 (QR below args s E 0 0 none M') 30 [(0, .ref (eA E 67)), (1, .int x1), (2, .long x2), (4, .int x4)] [] M) (h : b_X10_findHollows_67_58 k_30 n x1 x2 x4 x5 x7 M = some M') : G p l e (rmD 5) s m args below meth c E 9 0 0 (QR below args s E 0 0 none M') 58 [(0, .ref (eA E 67)), (1, .int x1), (2, .long x2), (4, .int x4), (5, .long x5), (7, .long x7)] [] M := by
  induction n generalizing x1 x2 x4 x5 x7 M with
  | zero => cases h
  | succ n ih => exact gb_X10_findHollows_67_58 hE C hr hk_30 (fun _ _ _ _ _ _ => ih)  h
def bb_X10_findHollows_67_30 (k_7 : Int32 → Mm → Option Mm) (k_30 : Int32 → Int64 → Int32 → Mm → Option Mm) (x1 : Int32) (x2 : Int64) (x4 : Int32) (M : Mm) : Option Mm := if (64 : Int32) ≤ x4 then (ltv (x1 + (1 : Int32)) fun x1_5 => k_7 x1_5 M) else (bd (f_X10_is x2 x4) fun v_7 => if v_7 = 0 then (ltv (x4 + (1 : Int32)) fun x4_9 => k_30 x1 x2 x4_9 M) else (ltv (shL (1 : Int64) x4) fun x5_8 => b_X10_findHollows_67_58 k_30 FU x1 x2 x4 x5_8 (0 : Int64) M))
set_option maxHeartbeats 4000000 in
set_option maxRecDepth 100000 in
theorem gb_X10_findHollows_67_30  {k_7 : Int32 → Mm → Option Mm} {k_30 : Int32 → Int64 → Int32 → Mm → Option Mm} {x1 : Int32} {x2 : Int64} {x4 : Int32} {M : Mm} {M' : Mm} (hE : Has shM (eH E)) (C : Cx RX10 cX10_findHollows 9 p (rmD 5) s m args meth c E) (hr : meth.sig.returnType = none) (hk_7 : ∀ (x1 : Int32) (M : Mm), k_7 x1 M = some M' → G p l e (rmD 5) s m args below meth c E 9 0 0 (QR below args s E 0 0 none M') 7 [(0, .ref (eA E 67)), (1, .int x1)] [] M) (hk_30 : ∀ (x1 : Int32) (x2 : Int64) (x4 : Int32) (M : Mm), k_30 x1 x2 x4 M = some M' → G p l e (rmD 5) s m args below meth c E 9 0 0 (QR below args s E 0 0 none M') 30 [(0, .ref (eA E 67)), (1, .int x1), (2, .long x2), (4, .int x4)] [] M) (h : bb_X10_findHollows_67_30 k_7 k_30 x1 x2 x4 M = some M') : G p l e (rmD 5) s m args below meth c E 9 0 0 (QR below args s E 0 0 none M') 30 [(0, .ref (eA E 67)), (1, .int x1), (2, .long x2), (4, .int x4)] [] M := by
  unfold bb_X10_findHollows_67_30 at h
  refine G.iload C 3 dX10_findHollows_30 rfl ?_
  refine G.bipush (v := (64 : Int32)) C dX10_findHollows_32 (by decide) ?_
  refine G.icmp_ge (tgt := 143) C dX10_findHollows_34 (by decide) (fun hc => ?_) (fun hc => ?_)
  · have h := it_t h hc
    obtain ⟨x1_5, ex1_5, h⟩ := ltv_ex h
    refine G.iinc (L' := [(1, .int x1_5), (0, .ref (eA E 67)), (2, .long x2), (4, .int x4)]) C 1 dX10_findHollows_143 rfl (ex1_5.trans rfl) (by decide) rfl ?_
    refine G.goto (tgt := 7) C dX10_findHollows_146 (by decide) ?_
    exact G.sub [1, 0] rfl (hk_7 _ _  h)
  · have h := it_f h hc
    refine G.lload_n C 2 dX10_findHollows_37 rfl rfl ?_
    refine G.iload C 3 dX10_findHollows_38 rfl ?_
    obtain ⟨v_7, hv_6, h⟩ := bd_ex h
    refine G.callS (rest := []) C (s_X10_is  hv_6) ⟨tg_1650, tg_103, ok_X10_is, Nat.le_of_ble_eq_true rfl, Nat.le_of_ble_eq_true rfl⟩ tg_1648 tg_1649 rfl (Nat.le_of_ble_eq_true rfl) dX10_findHollows_40 ⟨Nat.le_refl 0, Nat.le_refl 0⟩ ?_
    refine G.if_ne (tgt := 49) C dX10_findHollows_43 (by decide) (fun hc => ?_) (fun hc => ?_)
    · have h := it_f h hc
      refine G.lconst (v := (1 : Int64)) C dX10_findHollows_49 (by decide) ?_
      refine G.iload C 3 dX10_findHollows_50 rfl ?_
      refine G.lshl (v := shL (1 : Int64) x4) C dX10_findHollows_52 rfl ?_
      obtain ⟨x5_8, ex5_8, h⟩ := ltv_ex h
      refine G.lstore (L' := [(5, .long x5_8), (0, .ref (eA E 67)), (1, .int x1), (2, .long x2), (4, .int x4)]) C dX10_findHollows_53 ex5_8 (by decide) rfl ?_
      refine G.lconst (v := (0 : Int64)) C dX10_findHollows_55 (by decide) ?_
      refine G.lstore (L' := [(7, .long (0 : Int64)), (5, .long x5_8), (0, .ref (eA E 67)), (1, .int x1), (2, .long x2), (4, .int x4)]) C dX10_findHollows_56 rfl (by decide) rfl ?_
      exact G.sub [2, 3, 4, 5, 1, 0] rfl (g_X10_findHollows_67_58 hE C hr hk_30  h)
    · have h := it_t h hc
      refine G.goto (tgt := 137) C dX10_findHollows_46 (by decide) ?_
      obtain ⟨x4_9, ex4_9, h⟩ := ltv_ex h
      refine G.iinc (L' := [(4, .int x4_9), (0, .ref (eA E 67)), (1, .int x1), (2, .long x2)]) C 3 dX10_findHollows_137 rfl (ex4_9.trans rfl) (by decide) rfl ?_
      refine G.goto (tgt := 30) C dX10_findHollows_140 (by decide) ?_
      exact G.sub [1, 2, 3, 0] rfl (hk_30 _ _ _ _  h)
def b_X10_findHollows_67_30 (k_7 : Int32 → Mm → Option Mm) : Nat → Int32 → Int64 → Int32 → Mm → Option Mm
  | 0, _, _, _, _ => none
  | n + 1, x1, x2, x4, M => bb_X10_findHollows_67_30 k_7 (b_X10_findHollows_67_30 k_7 n) x1 x2 x4 M
set_option maxHeartbeats 4000000 in
theorem g_X10_findHollows_67_30  {k_7 : Int32 → Mm → Option Mm} {n : Nat} {x1 : Int32} {x2 : Int64} {x4 : Int32} {M : Mm} {M' : Mm} (hE : Has shM (eH E)) (C : Cx RX10 cX10_findHollows 9 p (rmD 5) s m args meth c E) (hr : meth.sig.returnType = none) (hk_7 : ∀ (x1 : Int32) (M : Mm), k_7 x1 M = some M' → G p l e (rmD 5) s m args below meth c E 9 0 0 (QR below args s E 0 0 none M') 7 [(0, .ref (eA E 67)), (1, .int x1)] [] M) (h : b_X10_findHollows_67_30 k_7 n x1 x2 x4 M = some M') : G p l e (rmD 5) s m args below meth c E 9 0 0 (QR below args s E 0 0 none M') 30 [(0, .ref (eA E 67)), (1, .int x1), (2, .long x2), (4, .int x4)] [] M := by
  induction n generalizing x1 x2 x4 M with
  | zero => cases h
  | succ n ih => exact gb_X10_findHollows_67_30 hE C hr hk_7 (fun _ _ _ _ => ih)  h
def bb_X10_findHollows_67_7 (k_7 : Int32 → Mm → Option Mm) (x1 : Int32) (M : Mm) : Option Mm := if (M.1 70 0) ≤ x1 then (some M) else (gd (inb x1 10) (bd (f_X10_hidden (M.2 72 (ix x1))) fun v_4 => b_X10_findHollows_67_30 k_7 FU x1 v_4 (0 : Int32) M))
set_option maxHeartbeats 4000000 in
set_option maxRecDepth 100000 in
theorem gb_X10_findHollows_67_7  {k_7 : Int32 → Mm → Option Mm} {x1 : Int32} {M : Mm} {M' : Mm} (hE : Has shM (eH E)) (C : Cx RX10 cX10_findHollows 9 p (rmD 5) s m args meth c E) (hr : meth.sig.returnType = none) (hk_7 : ∀ (x1 : Int32) (M : Mm), k_7 x1 M = some M' → G p l e (rmD 5) s m args below meth c E 9 0 0 (QR below args s E 0 0 none M') 7 [(0, .ref (eA E 67)), (1, .int x1)] [] M) (h : bb_X10_findHollows_67_7 k_7 x1 M = some M') : G p l e (rmD 5) s m args below meth c E 9 0 0 (QR below args s E 0 0 none M') 7 [(0, .ref (eA E 67)), (1, .int x1)] [] M := by
  unfold bb_X10_findHollows_67_7 at h
  refine G.iload_n C 1 dX10_findHollows_7 rfl rfl ?_
  refine G.aload_n C 0 dX10_findHollows_8 rfl rfl ?_
  refine G.getR (k := 10) C k_X10 (sm_67 hE) rfl (by decide) tg_1441 dX10_findHollows_9 ?_
  refine G.iconst (v := (0 : Int32)) C dX10_findHollows_12 (by decide) ?_
  refine G.aI (j := 0) C (sm_70 hE) (by decide) (by decide) dX10_findHollows_13 ?_
  refine G.icmp_ge (tgt := 149) C dX10_findHollows_14 (by decide) (fun hc => ?_) (fun hc => ?_)
  · have h := it_t h hc
    cases h
    exact G.vret C hr dX10_findHollows_149
  · have h := it_f h hc
    refine G.aload_n C 0 dX10_findHollows_17 rfl rfl ?_
    refine G.getR (k := 12) C k_X10 (sm_67 hE) rfl (by decide) tg_1443 dX10_findHollows_18 ?_
    refine G.iload_n C 1 dX10_findHollows_21 rfl rfl ?_
    obtain ⟨hg_2, h⟩ := gd_ex h
    refine G.aJ (j := ix x1) C (sm_72 hE) hg_2 rfl dX10_findHollows_22 ?_
    obtain ⟨v_4, hv_3, h⟩ := bd_ex h
    refine G.callS (rest := []) C (s_X10_hidden  hv_3) ⟨tg_1674, tg_103, ok_X10_hidden, Nat.le_of_ble_eq_true rfl, Nat.le_of_ble_eq_true rfl⟩ tg_1672 tg_1673 rfl (Nat.le_of_ble_eq_true rfl) dX10_findHollows_23 ⟨Nat.le_refl 0, Nat.le_refl 0⟩ ?_
    refine G.lstore_n (L' := [(2, .long v_4), (0, .ref (eA E 67)), (1, .int x1)]) C dX10_findHollows_26 rfl rfl (by decide) rfl ?_
    refine G.iconst (v := (0 : Int32)) C dX10_findHollows_27 (by decide) ?_
    refine G.istore (L' := [(4, .int (0 : Int32)), (2, .long v_4), (0, .ref (eA E 67)), (1, .int x1)]) C dX10_findHollows_28 rfl (by decide) rfl ?_
    exact G.sub [2, 3, 1, 0] rfl (g_X10_findHollows_67_30 hE C hr hk_7  h)
def b_X10_findHollows_67_7 : Nat → Int32 → Mm → Option Mm
  | 0, _, _ => none
  | n + 1, x1, M => bb_X10_findHollows_67_7 (b_X10_findHollows_67_7 n) x1 M
set_option maxHeartbeats 4000000 in
theorem g_X10_findHollows_67_7  {n : Nat} {x1 : Int32} {M : Mm} {M' : Mm} (hE : Has shM (eH E)) (C : Cx RX10 cX10_findHollows 9 p (rmD 5) s m args meth c E) (hr : meth.sig.returnType = none) (h : b_X10_findHollows_67_7 n x1 M = some M') : G p l e (rmD 5) s m args below meth c E 9 0 0 (QR below args s E 0 0 none M') 7 [(0, .ref (eA E 67)), (1, .int x1)] [] M := by
  induction n generalizing x1 M with
  | zero => cases h
  | succ n ih => exact gb_X10_findHollows_67_7 hE C hr (fun _ _ => ih)  h
def bb_X10_findHollows_67_0  (M : Mm) : Option Mm := ltv (wI M 67 19 (0 : Int32)) fun M_1 => b_X10_findHollows_67_7 FU (0 : Int32) M_1
set_option maxHeartbeats 4000000 in
set_option maxRecDepth 100000 in
theorem gb_X10_findHollows_67_0   {M : Mm} {M' : Mm} (hE : Has shM (eH E)) (C : Cx RX10 cX10_findHollows 9 p (rmD 5) s m args meth c E) (hr : meth.sig.returnType = none) (h : bb_X10_findHollows_67_0 M = some M') : G p l e (rmD 5) s m args below meth c E 9 0 0 (QR below args s E 0 0 none M') 0 [(0, .ref (eA E 67))] [] M := by
  unfold bb_X10_findHollows_67_0 at h
  refine G.aload_n C 0 dX10_findHollows_0 rfl rfl ?_
  refine G.iconst (v := (0 : Int32)) C dX10_findHollows_1 (by decide) ?_
  obtain ⟨M_1, eM_1, h⟩ := ltv_ex h
  refine G.putI (k := 19) C k_X10 (sm_67 hE) rfl (by decide) tg_1450 rfl rfl dX10_findHollows_2 eM_1 ?_
  refine G.iconst (v := (0 : Int32)) C dX10_findHollows_5 (by decide) ?_
  refine G.istore_n (L' := [(1, .int (0 : Int32)), (0, .ref (eA E 67))]) C dX10_findHollows_6 rfl rfl (by decide) rfl ?_
  exact G.sub [1, 0] rfl (g_X10_findHollows_67_7 hE C hr  h)
def f_X10_findHollows_67  (M : Mm) : Option Mm := bb_X10_findHollows_67_0 M
theorem s_X10_findHollows_67 {l : Launch} {E : Ev}  {M : Mm} {M' : Mm} (hE : Has shM (eH E)) (h : f_X10_findHollows_67 M = some M') : MetA l yX10_findHollows cX10_findHollows 9 none 5 E [.ref (eA E 67)] M none M' := by
  refine MetA.of (by decide +kernel) (Nat.le_of_ble_eq_true rfl) ?_
  intro p e s m below meth c C hr hnm
  exact G.sub [0] rfl (gb_X10_findHollows_67_0 hE C hr  h)
def bb_X10_sheet_67_226 (k_206 : Int32 → Mm → Option (Int32 × Mm)) (k_226 : Int32 → Int32 → Mm → Option (Int32 × Mm)) (x2 : Int32) (x3 : Int32) (M : Mm) : Option (Int32 × Mm) := if (8 : Int32) ≤ x3 then (ltv (x2 + (1 : Int32)) fun x2_48 => k_206 x2_48 M) else (gd (inb x2 6) (gd (inb x2 6) (gd (inb x3 8) (gd (inb x3 8) (ltv (wI M (81 + ix x2) (ix x3) (M.1 (74 + ix x2) (ix x3))) fun M_55 => ltv (x3 + (1 : Int32)) fun x3_56 => k_226 x2 x3_56 M_55)))))
set_option maxHeartbeats 4000000 in
set_option maxRecDepth 100000 in
theorem gb_X10_sheet_67_226  {k_206 : Int32 → Mm → Option (Int32 × Mm)} {k_226 : Int32 → Int32 → Mm → Option (Int32 × Mm)} {x2 : Int32} {x3 : Int32} {M : Mm} {v : Int32} {M' : Mm} (hE : Has shM (eH E)) (C : Cx RX10 cX10_sheet 4 p (rmD 7) s m args meth c E) (hr : meth.sig.returnType = (some .int)) (hk_206 : ∀ (x2 : Int32) (M : Mm), k_206 x2 M = some (v, M') → G p l e (rmD 7) s m args below meth c E 4 0 0 (QR below args s E 0 0 (some (.int v)) M') 206 [(0, .ref (eA E 67)), (2, .int x2)] [] M) (hk_226 : ∀ (x2 : Int32) (x3 : Int32) (M : Mm), k_226 x2 x3 M = some (v, M') → G p l e (rmD 7) s m args below meth c E 4 0 0 (QR below args s E 0 0 (some (.int v)) M') 226 [(0, .ref (eA E 67)), (2, .int x2), (3, .int x3)] [] M) (h : bb_X10_sheet_67_226 k_206 k_226 x2 x3 M = some (v, M')) : G p l e (rmD 7) s m args below meth c E 4 0 0 (QR below args s E 0 0 (some (.int v)) M') 226 [(0, .ref (eA E 67)), (2, .int x2), (3, .int x3)] [] M := by
  unfold bb_X10_sheet_67_226 at h
  refine G.iload_n C 2 dX10_sheet_226 rfl rfl ?_
  refine G.bipush (v := (8 : Int32)) C dX10_sheet_227 (by decide) ?_
  refine G.icmp_ge (tgt := 254) C dX10_sheet_229 (by decide) (fun hc => ?_) (fun hc => ?_)
  · have h := it_t h hc
    obtain ⟨x2_48, ex2_48, h⟩ := ltv_ex h
    refine G.iinc (L' := [(2, .int x2_48), (0, .ref (eA E 67)), (3, .int x3)]) C 1 dX10_sheet_254 rfl (ex2_48.trans rfl) (by decide) rfl ?_
    refine G.goto (tgt := 206) C dX10_sheet_257 (by decide) ?_
    exact G.sub [1, 0] rfl (hk_206 _ _  h)
  · have h := it_f h hc
    refine G.aload_n C 0 dX10_sheet_232 rfl rfl ?_
    refine G.getR (k := 14) C k_X10 (sm_67 hE) rfl (by decide) tg_1445 dX10_sheet_233 ?_
    refine G.iload_n C 1 dX10_sheet_236 rfl rfl ?_
    obtain ⟨hg_49, h⟩ := gd_ex h
    refine aald_q (k := 1) (t := 81 + ix x2) (ty := .array .int) C (sm_80 hE) rfl rfl hg_49 (rowE_80 hg_49) dX10_sheet_237 ?_
    have hq_50 := rowS_80 hE hg_49
    refine G.iload_n C 2 dX10_sheet_238 rfl rfl ?_
    refine G.aload_n C 0 dX10_sheet_239 rfl rfl ?_
    refine G.getR (k := 13) C k_X10 (sm_67 hE) rfl (by decide) tg_1444 dX10_sheet_240 ?_
    refine G.iload_n C 1 dX10_sheet_243 rfl rfl ?_
    obtain ⟨hg_51, h⟩ := gd_ex h
    refine aald_q (k := 1) (t := 74 + ix x2) (ty := .array .int) C (sm_73 hE) rfl rfl hg_51 (rowE_73 hg_51) dX10_sheet_244 ?_
    have hq_52 := rowS_73 hE hg_51
    refine G.iload_n C 2 dX10_sheet_245 rfl rfl ?_
    obtain ⟨hg_53, h⟩ := gd_ex h
    refine G.aI (j := ix x3) C (hq_52) hg_53 rfl dX10_sheet_246 ?_
    obtain ⟨hg_54, h⟩ := gd_ex h
    obtain ⟨M_55, eM_55, h⟩ := ltv_ex h
    refine G.sI (j := (ix x3)) C (hq_50) hg_54 rfl dX10_sheet_247 eM_55 ?_
    obtain ⟨x3_56, ex3_56, h⟩ := ltv_ex h
    refine G.iinc (L' := [(3, .int x3_56), (0, .ref (eA E 67)), (2, .int x2)]) C 2 dX10_sheet_248 rfl (ex3_56.trans rfl) (by decide) rfl ?_
    refine G.goto (tgt := 226) C dX10_sheet_251 (by decide) ?_
    exact G.sub [1, 2, 0] rfl (hk_226 _ _ _  h)
def b_X10_sheet_67_226 (k_206 : Int32 → Mm → Option (Int32 × Mm)) : Nat → Int32 → Int32 → Mm → Option (Int32 × Mm)
  | 0, _, _, _ => none
  | n + 1, x2, x3, M => bb_X10_sheet_67_226 k_206 (b_X10_sheet_67_226 k_206 n) x2 x3 M
set_option maxHeartbeats 4000000 in
theorem g_X10_sheet_67_226  {k_206 : Int32 → Mm → Option (Int32 × Mm)} {n : Nat} {x2 : Int32} {x3 : Int32} {M : Mm} {v : Int32} {M' : Mm} (hE : Has shM (eH E)) (C : Cx RX10 cX10_sheet 4 p (rmD 7) s m args meth c E) (hr : meth.sig.returnType = (some .int)) (hk_206 : ∀ (x2 : Int32) (M : Mm), k_206 x2 M = some (v, M') → G p l e (rmD 7) s m args below meth c E 4 0 0 (QR below args s E 0 0 (some (.int v)) M') 206 [(0, .ref (eA E 67)), (2, .int x2)] [] M) (h : b_X10_sheet_67_226 k_206 n x2 x3 M = some (v, M')) : G p l e (rmD 7) s m args below meth c E 4 0 0 (QR below args s E 0 0 (some (.int v)) M') 226 [(0, .ref (eA E 67)), (2, .int x2), (3, .int x3)] [] M := by
  induction n generalizing x2 x3 M with
  | zero => cases h
  | succ n ih => exact gb_X10_sheet_67_226 hE C hr hk_206 (fun _ _ _ => ih)  h
def bb_X10_sheet_67_262 (k_262 : Int32 → Mm → Option (Int32 × Mm)) (x2 : Int32) (M : Mm) : Option (Int32 × Mm) := if (10 : Int32) ≤ x2 then (bd (f_X10_findHollows_67 M) fun M_37 => ltv (wI M_37 67 23 (-1 : Int32)) fun M_38 => ltv (wJ M_38 67 22 (0 : Int64)) fun M_39 => ltv (wI M_39 67 24 (0 : Int32)) fun M_40 => ltv (wI M_40 67 25 (0 : Int32)) fun M_41 => ltv (wI M_41 67 26 (0 : Int32)) fun M_42 => ltv (wI M_42 67 27 (0 : Int32)) fun M_43 => some (M_43.1 70 0, M_43)) else (gd (inb x2 10) (gd (inb x2 10) (ltv (wI M 90 (ix x2) (M.1 89 (ix x2))) fun M_46 => ltv (x2 + (1 : Int32)) fun x2_47 => k_262 x2_47 M_46)))
set_option maxHeartbeats 4000000 in
set_option maxRecDepth 100000 in
theorem gb_X10_sheet_67_262  {k_262 : Int32 → Mm → Option (Int32 × Mm)} {x2 : Int32} {M : Mm} {v : Int32} {M' : Mm} (hE : Has shM (eH E)) (C : Cx RX10 cX10_sheet 4 p (rmD 7) s m args meth c E) (hr : meth.sig.returnType = (some .int)) (hk_262 : ∀ (x2 : Int32) (M : Mm), k_262 x2 M = some (v, M') → G p l e (rmD 7) s m args below meth c E 4 0 0 (QR below args s E 0 0 (some (.int v)) M') 262 [(0, .ref (eA E 67)), (2, .int x2)] [] M) (h : bb_X10_sheet_67_262 k_262 x2 M = some (v, M')) : G p l e (rmD 7) s m args below meth c E 4 0 0 (QR below args s E 0 0 (some (.int v)) M') 262 [(0, .ref (eA E 67)), (2, .int x2)] [] M := by
  unfold bb_X10_sheet_67_262 at h
  refine G.iload_n C 1 dX10_sheet_262 rfl rfl ?_
  refine G.bipush (v := (10 : Int32)) C dX10_sheet_263 (by decide) ?_
  refine G.icmp_ge (tgt := 286) C dX10_sheet_265 (by decide) (fun hc => ?_) (fun hc => ?_)
  · have h := it_t h hc
    refine G.aload_n C 0 dX10_sheet_286 rfl rfl ?_
    obtain ⟨M_37, hv_36, h⟩ := bd_ex h
    refine G.callV (rest := []) C (s_X10_findHollows_67 hE  hv_36) ⟨tg_1671, tg_103, ok_X10_findHollows, Nat.le_of_ble_eq_true rfl, Nat.le_of_ble_eq_true rfl⟩ tg_1668 tg_1670 tg_61 (sm_67 hE) rfl rfl (Nat.le_of_ble_eq_true rfl) dX10_sheet_287 ⟨Nat.le_refl 0, Nat.le_refl 0⟩ ?_
    refine G.aload_n C 0 dX10_sheet_290 rfl rfl ?_
    refine G.iconst (v := (-1 : Int32)) C dX10_sheet_291 (by decide) ?_
    obtain ⟨M_38, eM_38, h⟩ := ltv_ex h
    refine G.putI (k := 23) C k_X10 (sm_67 hE) rfl (by decide) tg_1454 rfl rfl dX10_sheet_292 eM_38 ?_
    refine G.aload_n C 0 dX10_sheet_295 rfl rfl ?_
    refine G.lconst (v := (0 : Int64)) C dX10_sheet_296 (by decide) ?_
    obtain ⟨M_39, eM_39, h⟩ := ltv_ex h
    refine G.putJ (k := 22) C k_X10 (sm_67 hE) rfl (by decide) tg_1453 rfl rfl dX10_sheet_297 eM_39 ?_
    refine G.aload_n C 0 dX10_sheet_300 rfl rfl ?_
    refine G.iconst (v := (0 : Int32)) C dX10_sheet_301 (by decide) ?_
    obtain ⟨M_40, eM_40, h⟩ := ltv_ex h
    refine G.putI (k := 24) C k_X10 (sm_67 hE) rfl (by decide) tg_1455 rfl rfl dX10_sheet_302 eM_40 ?_
    refine G.aload_n C 0 dX10_sheet_305 rfl rfl ?_
    refine G.iconst (v := (0 : Int32)) C dX10_sheet_306 (by decide) ?_
    obtain ⟨M_41, eM_41, h⟩ := ltv_ex h
    refine G.putI (k := 25) C k_X10 (sm_67 hE) rfl (by decide) tg_1456 rfl rfl dX10_sheet_307 eM_41 ?_
    refine G.aload_n C 0 dX10_sheet_310 rfl rfl ?_
    refine G.iconst (v := (0 : Int32)) C dX10_sheet_311 (by decide) ?_
    obtain ⟨M_42, eM_42, h⟩ := ltv_ex h
    refine G.putI (k := 26) C k_X10 (sm_67 hE) rfl (by decide) tg_1457 rfl rfl dX10_sheet_312 eM_42 ?_
    refine G.aload_n C 0 dX10_sheet_315 rfl rfl ?_
    refine G.iconst (v := (0 : Int32)) C dX10_sheet_316 (by decide) ?_
    obtain ⟨M_43, eM_43, h⟩ := ltv_ex h
    refine G.putI (k := 27) C k_X10 (sm_67 hE) rfl (by decide) tg_1458 rfl rfl dX10_sheet_317 eM_43 ?_
    refine G.aload_n C 0 dX10_sheet_320 rfl rfl ?_
    refine G.getR (k := 10) C k_X10 (sm_67 hE) rfl (by decide) tg_1441 dX10_sheet_321 ?_
    refine G.iconst (v := (0 : Int32)) C dX10_sheet_324 (by decide) ?_
    refine G.aI (j := 0) C (sm_70 hE) (by decide) (by decide) dX10_sheet_325 ?_
    cases h
    exact G.iret C hr dX10_sheet_326
  · have h := it_f h hc
    refine G.aload_n C 0 dX10_sheet_268 rfl rfl ?_
    refine G.getR (k := 18) C k_X10 (sm_67 hE) rfl (by decide) tg_1449 dX10_sheet_269 ?_
    refine G.iload_n C 1 dX10_sheet_272 rfl rfl ?_
    refine G.aload_n C 0 dX10_sheet_273 rfl rfl ?_
    refine G.getR (k := 17) C k_X10 (sm_67 hE) rfl (by decide) tg_1448 dX10_sheet_274 ?_
    refine G.iload_n C 1 dX10_sheet_277 rfl rfl ?_
    obtain ⟨hg_44, h⟩ := gd_ex h
    refine G.aI (j := ix x2) C (sm_89 hE) hg_44 rfl dX10_sheet_278 ?_
    obtain ⟨hg_45, h⟩ := gd_ex h
    obtain ⟨M_46, eM_46, h⟩ := ltv_ex h
    refine G.sI (j := (ix x2)) C (sm_90 hE) hg_45 rfl dX10_sheet_279 eM_46 ?_
    obtain ⟨x2_47, ex2_47, h⟩ := ltv_ex h
    refine G.iinc (L' := [(2, .int x2_47), (0, .ref (eA E 67))]) C 1 dX10_sheet_280 rfl (ex2_47.trans rfl) (by decide) rfl ?_
    refine G.goto (tgt := 262) C dX10_sheet_283 (by decide) ?_
    exact G.sub [1, 0] rfl (hk_262 _ _  h)
def b_X10_sheet_67_262 : Nat → Int32 → Mm → Option (Int32 × Mm)
  | 0, _, _ => none
  | n + 1, x2, M => bb_X10_sheet_67_262 (b_X10_sheet_67_262 n) x2 M
set_option maxHeartbeats 4000000 in
theorem g_X10_sheet_67_262  {n : Nat} {x2 : Int32} {M : Mm} {v : Int32} {M' : Mm} (hE : Has shM (eH E)) (C : Cx RX10 cX10_sheet 4 p (rmD 7) s m args meth c E) (hr : meth.sig.returnType = (some .int)) (h : b_X10_sheet_67_262 n x2 M = some (v, M')) : G p l e (rmD 7) s m args below meth c E 4 0 0 (QR below args s E 0 0 (some (.int v)) M') 262 [(0, .ref (eA E 67)), (2, .int x2)] [] M := by
  induction n generalizing x2 M with
  | zero => cases h
  | succ n ih => exact gb_X10_sheet_67_262 hE C hr (fun _ _ => ih)  h
def bb_X10_sheet_67_206 (k_206 : Int32 → Mm → Option (Int32 × Mm)) (x2 : Int32) (M : Mm) : Option (Int32 × Mm) := if (6 : Int32) ≤ x2 then (b_X10_sheet_67_262 FU (0 : Int32) M) else (gd (inb x2 6) (gd (inb x2 6) (ltv (wI M 88 (ix x2) (M.1 87 (ix x2))) fun M_35 => b_X10_sheet_67_226 k_206 FU x2 (0 : Int32) M_35)))
set_option maxHeartbeats 4000000 in
set_option maxRecDepth 100000 in
theorem gb_X10_sheet_67_206  {k_206 : Int32 → Mm → Option (Int32 × Mm)} {x2 : Int32} {M : Mm} {v : Int32} {M' : Mm} (hE : Has shM (eH E)) (C : Cx RX10 cX10_sheet 4 p (rmD 7) s m args meth c E) (hr : meth.sig.returnType = (some .int)) (hk_206 : ∀ (x2 : Int32) (M : Mm), k_206 x2 M = some (v, M') → G p l e (rmD 7) s m args below meth c E 4 0 0 (QR below args s E 0 0 (some (.int v)) M') 206 [(0, .ref (eA E 67)), (2, .int x2)] [] M) (h : bb_X10_sheet_67_206 k_206 x2 M = some (v, M')) : G p l e (rmD 7) s m args below meth c E 4 0 0 (QR below args s E 0 0 (some (.int v)) M') 206 [(0, .ref (eA E 67)), (2, .int x2)] [] M := by
  unfold bb_X10_sheet_67_206 at h
  refine G.iload_n C 1 dX10_sheet_206 rfl rfl ?_
  refine G.bipush (v := (6 : Int32)) C dX10_sheet_207 (by decide) ?_
  refine G.icmp_ge (tgt := 260) C dX10_sheet_209 (by decide) (fun hc => ?_) (fun hc => ?_)
  · have h := it_t h hc
    refine G.iconst (v := (0 : Int32)) C dX10_sheet_260 (by decide) ?_
    refine G.istore_n (L' := [(2, .int (0 : Int32)), (0, .ref (eA E 67))]) C dX10_sheet_261 rfl rfl (by decide) rfl ?_
    exact G.sub [1, 0] rfl (g_X10_sheet_67_262 hE C hr  h)
  · have h := it_f h hc
    refine G.aload_n C 0 dX10_sheet_212 rfl rfl ?_
    refine G.getR (k := 16) C k_X10 (sm_67 hE) rfl (by decide) tg_1447 dX10_sheet_213 ?_
    refine G.iload_n C 1 dX10_sheet_216 rfl rfl ?_
    refine G.aload_n C 0 dX10_sheet_217 rfl rfl ?_
    refine G.getR (k := 15) C k_X10 (sm_67 hE) rfl (by decide) tg_1446 dX10_sheet_218 ?_
    refine G.iload_n C 1 dX10_sheet_221 rfl rfl ?_
    obtain ⟨hg_33, h⟩ := gd_ex h
    refine G.aI (j := ix x2) C (sm_87 hE) hg_33 rfl dX10_sheet_222 ?_
    obtain ⟨hg_34, h⟩ := gd_ex h
    obtain ⟨M_35, eM_35, h⟩ := ltv_ex h
    refine G.sI (j := (ix x2)) C (sm_88 hE) hg_34 rfl dX10_sheet_223 eM_35 ?_
    refine G.iconst (v := (0 : Int32)) C dX10_sheet_224 (by decide) ?_
    refine G.istore_n (L' := [(3, .int (0 : Int32)), (0, .ref (eA E 67)), (2, .int x2)]) C dX10_sheet_225 rfl rfl (by decide) rfl ?_
    exact G.sub [1, 2, 0] rfl (g_X10_sheet_67_226 hE C hr hk_206  h)
def b_X10_sheet_67_206 : Nat → Int32 → Mm → Option (Int32 × Mm)
  | 0, _, _ => none
  | n + 1, x2, M => bb_X10_sheet_67_206 (b_X10_sheet_67_206 n) x2 M
set_option maxHeartbeats 4000000 in
theorem g_X10_sheet_67_206  {n : Nat} {x2 : Int32} {M : Mm} {v : Int32} {M' : Mm} (hE : Has shM (eH E)) (C : Cx RX10 cX10_sheet 4 p (rmD 7) s m args meth c E) (hr : meth.sig.returnType = (some .int)) (h : b_X10_sheet_67_206 n x2 M = some (v, M')) : G p l e (rmD 7) s m args below meth c E 4 0 0 (QR below args s E 0 0 (some (.int v)) M') 206 [(0, .ref (eA E 67)), (2, .int x2)] [] M := by
  induction n generalizing x2 M with
  | zero => cases h
  | succ n ih => exact gb_X10_sheet_67_206 hE C hr (fun _ _ => ih)  h
def bb_X10_sheet_67_180 (k_180 : Int32 → Mm → Option (Int32 × Mm)) (x2 : Int32) (M : Mm) : Option (Int32 × Mm) := if (10 : Int32) ≤ x2 then (b_X10_sheet_67_206 FU (0 : Int32) M) else (gd (inb x2 10) (gd (inb x2 10) (ltv (wJ M 72 (ix x2) (M.2 71 (ix x2))) fun M_31 => ltv (x2 + (1 : Int32)) fun x2_32 => k_180 x2_32 M_31)))
set_option maxHeartbeats 4000000 in
set_option maxRecDepth 100000 in
theorem gb_X10_sheet_67_180  {k_180 : Int32 → Mm → Option (Int32 × Mm)} {x2 : Int32} {M : Mm} {v : Int32} {M' : Mm} (hE : Has shM (eH E)) (C : Cx RX10 cX10_sheet 4 p (rmD 7) s m args meth c E) (hr : meth.sig.returnType = (some .int)) (hk_180 : ∀ (x2 : Int32) (M : Mm), k_180 x2 M = some (v, M') → G p l e (rmD 7) s m args below meth c E 4 0 0 (QR below args s E 0 0 (some (.int v)) M') 180 [(0, .ref (eA E 67)), (2, .int x2)] [] M) (h : bb_X10_sheet_67_180 k_180 x2 M = some (v, M')) : G p l e (rmD 7) s m args below meth c E 4 0 0 (QR below args s E 0 0 (some (.int v)) M') 180 [(0, .ref (eA E 67)), (2, .int x2)] [] M := by
  unfold bb_X10_sheet_67_180 at h
  refine G.iload_n C 1 dX10_sheet_180 rfl rfl ?_
  refine G.bipush (v := (10 : Int32)) C dX10_sheet_181 (by decide) ?_
  refine G.icmp_ge (tgt := 204) C dX10_sheet_183 (by decide) (fun hc => ?_) (fun hc => ?_)
  · have h := it_t h hc
    refine G.iconst (v := (0 : Int32)) C dX10_sheet_204 (by decide) ?_
    refine G.istore_n (L' := [(2, .int (0 : Int32)), (0, .ref (eA E 67))]) C dX10_sheet_205 rfl rfl (by decide) rfl ?_
    exact G.sub [1, 0] rfl (g_X10_sheet_67_206 hE C hr  h)
  · have h := it_f h hc
    refine G.aload_n C 0 dX10_sheet_186 rfl rfl ?_
    refine G.getR (k := 12) C k_X10 (sm_67 hE) rfl (by decide) tg_1443 dX10_sheet_187 ?_
    refine G.iload_n C 1 dX10_sheet_190 rfl rfl ?_
    refine G.aload_n C 0 dX10_sheet_191 rfl rfl ?_
    refine G.getR (k := 11) C k_X10 (sm_67 hE) rfl (by decide) tg_1442 dX10_sheet_192 ?_
    refine G.iload_n C 1 dX10_sheet_195 rfl rfl ?_
    obtain ⟨hg_29, h⟩ := gd_ex h
    refine G.aJ (j := ix x2) C (sm_71 hE) hg_29 rfl dX10_sheet_196 ?_
    obtain ⟨hg_30, h⟩ := gd_ex h
    obtain ⟨M_31, eM_31, h⟩ := ltv_ex h
    refine G.sJ (j := (ix x2)) C (sm_72 hE) hg_30 rfl dX10_sheet_197 eM_31 ?_
    obtain ⟨x2_32, ex2_32, h⟩ := ltv_ex h
    refine G.iinc (L' := [(2, .int x2_32), (0, .ref (eA E 67))]) C 1 dX10_sheet_198 rfl (ex2_32.trans rfl) (by decide) rfl ?_
    refine G.goto (tgt := 180) C dX10_sheet_201 (by decide) ?_
    exact G.sub [1, 0] rfl (hk_180 _ _  h)
def b_X10_sheet_67_180 : Nat → Int32 → Mm → Option (Int32 × Mm)
  | 0, _, _ => none
  | n + 1, x2, M => bb_X10_sheet_67_180 (b_X10_sheet_67_180 n) x2 M
set_option maxHeartbeats 4000000 in
theorem g_X10_sheet_67_180  {n : Nat} {x2 : Int32} {M : Mm} {v : Int32} {M' : Mm} (hE : Has shM (eH E)) (C : Cx RX10 cX10_sheet 4 p (rmD 7) s m args meth c E) (hr : meth.sig.returnType = (some .int)) (h : b_X10_sheet_67_180 n x2 M = some (v, M')) : G p l e (rmD 7) s m args below meth c E 4 0 0 (QR below args s E 0 0 (some (.int v)) M') 180 [(0, .ref (eA E 67)), (2, .int x2)] [] M := by
  induction n generalizing x2 M with
  | zero => cases h
  | succ n ih => exact gb_X10_sheet_67_180 hE C hr (fun _ _ => ih)  h
def bb_X10_sheet_67_155 (k_155 : Int32 → Mm → Option (Int32 × Mm)) (x2 : Int32) (M : Mm) : Option (Int32 × Mm) := if (2 : Int32) ≤ x2 then (b_X10_sheet_67_180 FU (0 : Int32) M) else (gd (inb x2 2) (gd (inb x2 2) (ltv (wI M 70 (ix x2) (M.1 69 (ix x2))) fun M_27 => ltv (x2 + (1 : Int32)) fun x2_28 => k_155 x2_28 M_27)))
set_option maxHeartbeats 4000000 in
set_option maxRecDepth 100000 in
theorem gb_X10_sheet_67_155  {k_155 : Int32 → Mm → Option (Int32 × Mm)} {x2 : Int32} {M : Mm} {v : Int32} {M' : Mm} (hE : Has shM (eH E)) (C : Cx RX10 cX10_sheet 4 p (rmD 7) s m args meth c E) (hr : meth.sig.returnType = (some .int)) (hk_155 : ∀ (x2 : Int32) (M : Mm), k_155 x2 M = some (v, M') → G p l e (rmD 7) s m args below meth c E 4 0 0 (QR below args s E 0 0 (some (.int v)) M') 155 [(0, .ref (eA E 67)), (2, .int x2)] [] M) (h : bb_X10_sheet_67_155 k_155 x2 M = some (v, M')) : G p l e (rmD 7) s m args below meth c E 4 0 0 (QR below args s E 0 0 (some (.int v)) M') 155 [(0, .ref (eA E 67)), (2, .int x2)] [] M := by
  unfold bb_X10_sheet_67_155 at h
  refine G.iload_n C 1 dX10_sheet_155 rfl rfl ?_
  refine G.iconst (v := (2 : Int32)) C dX10_sheet_156 (by decide) ?_
  refine G.icmp_ge (tgt := 178) C dX10_sheet_157 (by decide) (fun hc => ?_) (fun hc => ?_)
  · have h := it_t h hc
    refine G.iconst (v := (0 : Int32)) C dX10_sheet_178 (by decide) ?_
    refine G.istore_n (L' := [(2, .int (0 : Int32)), (0, .ref (eA E 67))]) C dX10_sheet_179 rfl rfl (by decide) rfl ?_
    exact G.sub [1, 0] rfl (g_X10_sheet_67_180 hE C hr  h)
  · have h := it_f h hc
    refine G.aload_n C 0 dX10_sheet_160 rfl rfl ?_
    refine G.getR (k := 10) C k_X10 (sm_67 hE) rfl (by decide) tg_1441 dX10_sheet_161 ?_
    refine G.iload_n C 1 dX10_sheet_164 rfl rfl ?_
    refine G.aload_n C 0 dX10_sheet_165 rfl rfl ?_
    refine G.getR (k := 9) C k_X10 (sm_67 hE) rfl (by decide) tg_1440 dX10_sheet_166 ?_
    refine G.iload_n C 1 dX10_sheet_169 rfl rfl ?_
    obtain ⟨hg_25, h⟩ := gd_ex h
    refine G.aI (j := ix x2) C (sm_69 hE) hg_25 rfl dX10_sheet_170 ?_
    obtain ⟨hg_26, h⟩ := gd_ex h
    obtain ⟨M_27, eM_27, h⟩ := ltv_ex h
    refine G.sI (j := (ix x2)) C (sm_70 hE) hg_26 rfl dX10_sheet_171 eM_27 ?_
    obtain ⟨x2_28, ex2_28, h⟩ := ltv_ex h
    refine G.iinc (L' := [(2, .int x2_28), (0, .ref (eA E 67))]) C 1 dX10_sheet_172 rfl (ex2_28.trans rfl) (by decide) rfl ?_
    refine G.goto (tgt := 155) C dX10_sheet_175 (by decide) ?_
    exact G.sub [1, 0] rfl (hk_155 _ _  h)
def b_X10_sheet_67_155 : Nat → Int32 → Mm → Option (Int32 × Mm)
  | 0, _, _ => none
  | n + 1, x2, M => bb_X10_sheet_67_155 (b_X10_sheet_67_155 n) x2 M
set_option maxHeartbeats 4000000 in
theorem g_X10_sheet_67_155  {n : Nat} {x2 : Int32} {M : Mm} {v : Int32} {M' : Mm} (hE : Has shM (eH E)) (C : Cx RX10 cX10_sheet 4 p (rmD 7) s m args meth c E) (hr : meth.sig.returnType = (some .int)) (h : b_X10_sheet_67_155 n x2 M = some (v, M')) : G p l e (rmD 7) s m args below meth c E 4 0 0 (QR below args s E 0 0 (some (.int v)) M') 155 [(0, .ref (eA E 67)), (2, .int x2)] [] M := by
  induction n generalizing x2 M with
  | zero => cases h
  | succ n ih => exact gb_X10_sheet_67_155 hE C hr (fun _ _ => ih)  h
def bb_X10_sheet_67_130  (M : Mm) : Option (Int32 × Mm) := ltv (wI M 67 3 (M.1 67 6)) fun M_24 => if (M_24.1 67 5) = 0 then (b_X10_sheet_67_155 FU (0 : Int32) M_24) else (some ((M_24.1 67 5) - (10 : Int32), M_24))
set_option maxHeartbeats 4000000 in
set_option maxRecDepth 100000 in
theorem gb_X10_sheet_67_130   {M : Mm} {v : Int32} {M' : Mm} (hE : Has shM (eH E)) (C : Cx RX10 cX10_sheet 4 p (rmD 7) s m args meth c E) (hr : meth.sig.returnType = (some .int)) (h : bb_X10_sheet_67_130 M = some (v, M')) : G p l e (rmD 7) s m args below meth c E 4 0 0 (QR below args s E 0 0 (some (.int v)) M') 130 [(0, .ref (eA E 67))] [] M := by
  unfold bb_X10_sheet_67_130 at h
  refine G.aload_n C 0 dX10_sheet_130 rfl rfl ?_
  refine G.aload_n C 0 dX10_sheet_131 rfl rfl ?_
  refine G.getI (k := 6) C k_X10 (sm_67 hE) rfl (by decide) tg_1437 dX10_sheet_132 ?_
  obtain ⟨M_24, eM_24, h⟩ := ltv_ex h
  refine G.putI (k := 3) C k_X10 (sm_67 hE) rfl (by decide) tg_1434 rfl rfl dX10_sheet_135 eM_24 ?_
  refine G.aload_n C 0 dX10_sheet_138 rfl rfl ?_
  refine G.getI (k := 5) C k_X10 (sm_67 hE) rfl (by decide) tg_1436 dX10_sheet_139 ?_
  refine G.if_eq (tgt := 153) C dX10_sheet_142 (by decide) (fun hc => ?_) (fun hc => ?_)
  · have h := it_t h hc
    refine G.iconst (v := (0 : Int32)) C dX10_sheet_153 (by decide) ?_
    refine G.istore_n (L' := [(2, .int (0 : Int32)), (0, .ref (eA E 67))]) C dX10_sheet_154 rfl rfl (by decide) rfl ?_
    exact G.sub [1, 0] rfl (g_X10_sheet_67_155 hE C hr  h)
  · have h := it_f h hc
    refine G.aload_n C 0 dX10_sheet_145 rfl rfl ?_
    refine G.getI (k := 5) C k_X10 (sm_67 hE) rfl (by decide) tg_1436 dX10_sheet_146 ?_
    refine G.bipush (v := (10 : Int32)) C dX10_sheet_149 (by decide) ?_
    refine G.isub C dX10_sheet_151 ?_
    cases h
    exact G.iret C hr dX10_sheet_152
def bb_X10_sheet_67_101 (k_101 : Mm → Option (Int32 × Mm))  (M : Mm) : Option (Int32 × Mm) := if (M.1 67 5) = 0 then (if (M.1 67 2) ≤ (M.1 67 4) then (bb_X10_sheet_67_130 M) else (bd (f_X10_clause_67 M) fun M_21 => bd (f_X10_blanks_67 M_21) fun M_23 => k_101 M_23)) else (bb_X10_sheet_67_130 M)
set_option maxHeartbeats 4000000 in
set_option maxRecDepth 100000 in
theorem gb_X10_sheet_67_101  {k_101 : Mm → Option (Int32 × Mm)}  {M : Mm} {v : Int32} {M' : Mm} (hE : Has shM (eH E)) (C : Cx RX10 cX10_sheet 4 p (rmD 7) s m args meth c E) (hr : meth.sig.returnType = (some .int)) (hk_101 : ∀  (M : Mm), k_101 M = some (v, M') → G p l e (rmD 7) s m args below meth c E 4 0 0 (QR below args s E 0 0 (some (.int v)) M') 101 [(0, .ref (eA E 67))] [] M) (h : bb_X10_sheet_67_101 k_101 M = some (v, M')) : G p l e (rmD 7) s m args below meth c E 4 0 0 (QR below args s E 0 0 (some (.int v)) M') 101 [(0, .ref (eA E 67))] [] M := by
  unfold bb_X10_sheet_67_101 at h
  refine G.aload_n C 0 dX10_sheet_101 rfl rfl ?_
  refine G.getI (k := 5) C k_X10 (sm_67 hE) rfl (by decide) tg_1436 dX10_sheet_102 ?_
  refine G.if_ne (tgt := 130) C dX10_sheet_105 (by decide) (fun hc => ?_) (fun hc => ?_)
  · have h := it_f h hc
    exact G.sub [0] rfl (gb_X10_sheet_67_130 hE C hr  h)
  · have h := it_t h hc
    refine G.aload_n C 0 dX10_sheet_108 rfl rfl ?_
    refine G.getI (k := 4) C k_X10 (sm_67 hE) rfl (by decide) tg_1435 dX10_sheet_109 ?_
    refine G.aload_n C 0 dX10_sheet_112 rfl rfl ?_
    refine G.getI (k := 2) C k_X10 (sm_67 hE) rfl (by decide) tg_1433 dX10_sheet_113 ?_
    refine G.icmp_ge (tgt := 130) C dX10_sheet_116 (by decide) (fun hc => ?_) (fun hc => ?_)
    · have h := it_t h hc
      exact G.sub [0] rfl (gb_X10_sheet_67_130 hE C hr  h)
    · have h := it_f h hc
      refine G.aload_n C 0 dX10_sheet_119 rfl rfl ?_
      obtain ⟨M_21, hv_20, h⟩ := bd_ex h
      refine G.callV (rest := []) C (s_X10_clause_67 hE  hv_20) ⟨tg_1612, tg_103, ok_X10_clause, Nat.le_of_ble_eq_true rfl, Nat.le_of_ble_eq_true rfl⟩ tg_1609 tg_1611 tg_49 (sm_67 hE) rfl rfl (Nat.le_of_ble_eq_true rfl) dX10_sheet_120 ⟨Nat.le_refl 0, Nat.le_refl 0⟩ ?_
      refine G.aload_n C 0 dX10_sheet_123 rfl rfl ?_
      obtain ⟨M_23, hv_22, h⟩ := bd_ex h
      refine G.callV (rest := []) C (s_X10_blanks_67 hE  hv_22) ⟨tg_1604, tg_103, ok_X10_blanks, Nat.le_of_ble_eq_true rfl, Nat.le_of_ble_eq_true rfl⟩ tg_1601 tg_1603 tg_47 (sm_67 hE) rfl rfl (Nat.le_of_ble_eq_true rfl) dX10_sheet_124 ⟨Nat.le_refl 0, Nat.le_refl 0⟩ ?_
      refine G.goto (tgt := 101) C dX10_sheet_127 (by decide) ?_
      exact G.sub [0] rfl (hk_101 _  h)
def b_X10_sheet_67_101 : Nat → Mm → Option (Int32 × Mm)
  | 0, _ => none
  | n + 1, M => bb_X10_sheet_67_101 (b_X10_sheet_67_101 n) M
set_option maxHeartbeats 4000000 in
theorem g_X10_sheet_67_101  {n : Nat}  {M : Mm} {v : Int32} {M' : Mm} (hE : Has shM (eH E)) (C : Cx RX10 cX10_sheet 4 p (rmD 7) s m args meth c E) (hr : meth.sig.returnType = (some .int)) (h : b_X10_sheet_67_101 n M = some (v, M')) : G p l e (rmD 7) s m args below meth c E 4 0 0 (QR below args s E 0 0 (some (.int v)) M') 101 [(0, .ref (eA E 67))] [] M := by
  induction n generalizing M with
  | zero => cases h
  | succ n ih => exact gb_X10_sheet_67_101 hE C hr (fun _ => ih)  h
def bb_X10_sheet_67_78 (k_78 : Int32 → Mm → Option (Int32 × Mm)) (x2 : Int32) (M : Mm) : Option (Int32 × Mm) := if (10 : Int32) ≤ x2 then (bd (f_X10_blanks_67 M) fun M_16 => b_X10_sheet_67_101 FU M_16) else (gd (inb x2 10) (ltv (wI M 89 (ix x2) (4 : Int32)) fun M_18 => ltv (x2 + (1 : Int32)) fun x2_19 => k_78 x2_19 M_18))
set_option maxHeartbeats 4000000 in
set_option maxRecDepth 100000 in
theorem gb_X10_sheet_67_78  {k_78 : Int32 → Mm → Option (Int32 × Mm)} {x2 : Int32} {M : Mm} {v : Int32} {M' : Mm} (hE : Has shM (eH E)) (C : Cx RX10 cX10_sheet 4 p (rmD 7) s m args meth c E) (hr : meth.sig.returnType = (some .int)) (hk_78 : ∀ (x2 : Int32) (M : Mm), k_78 x2 M = some (v, M') → G p l e (rmD 7) s m args below meth c E 4 0 0 (QR below args s E 0 0 (some (.int v)) M') 78 [(0, .ref (eA E 67)), (2, .int x2)] [] M) (h : bb_X10_sheet_67_78 k_78 x2 M = some (v, M')) : G p l e (rmD 7) s m args below meth c E 4 0 0 (QR below args s E 0 0 (some (.int v)) M') 78 [(0, .ref (eA E 67)), (2, .int x2)] [] M := by
  unfold bb_X10_sheet_67_78 at h
  refine G.iload_n C 1 dX10_sheet_78 rfl rfl ?_
  refine G.bipush (v := (10 : Int32)) C dX10_sheet_79 (by decide) ?_
  refine G.icmp_ge (tgt := 97) C dX10_sheet_81 (by decide) (fun hc => ?_) (fun hc => ?_)
  · have h := it_t h hc
    refine G.aload_n C 0 dX10_sheet_97 rfl rfl ?_
    obtain ⟨M_16, hv_15, h⟩ := bd_ex h
    refine G.callV (rest := []) C (s_X10_blanks_67 hE  hv_15) ⟨tg_1604, tg_103, ok_X10_blanks, Nat.le_of_ble_eq_true rfl, Nat.le_of_ble_eq_true rfl⟩ tg_1601 tg_1603 tg_47 (sm_67 hE) rfl rfl (Nat.le_of_ble_eq_true rfl) dX10_sheet_98 ⟨Nat.le_refl 0, Nat.le_refl 0⟩ ?_
    exact G.sub [0] rfl (g_X10_sheet_67_101 hE C hr  h)
  · have h := it_f h hc
    refine G.aload_n C 0 dX10_sheet_84 rfl rfl ?_
    refine G.getR (k := 17) C k_X10 (sm_67 hE) rfl (by decide) tg_1448 dX10_sheet_85 ?_
    refine G.iload_n C 1 dX10_sheet_88 rfl rfl ?_
    refine G.iconst (v := (4 : Int32)) C dX10_sheet_89 (by decide) ?_
    obtain ⟨hg_17, h⟩ := gd_ex h
    obtain ⟨M_18, eM_18, h⟩ := ltv_ex h
    refine G.sI (j := (ix x2)) C (sm_89 hE) hg_17 rfl dX10_sheet_90 eM_18 ?_
    obtain ⟨x2_19, ex2_19, h⟩ := ltv_ex h
    refine G.iinc (L' := [(2, .int x2_19), (0, .ref (eA E 67))]) C 1 dX10_sheet_91 rfl (ex2_19.trans rfl) (by decide) rfl ?_
    refine G.goto (tgt := 78) C dX10_sheet_94 (by decide) ?_
    exact G.sub [1, 0] rfl (hk_78 _ _  h)
def b_X10_sheet_67_78 : Nat → Int32 → Mm → Option (Int32 × Mm)
  | 0, _, _ => none
  | n + 1, x2, M => bb_X10_sheet_67_78 (b_X10_sheet_67_78 n) x2 M
set_option maxHeartbeats 4000000 in
theorem g_X10_sheet_67_78  {n : Nat} {x2 : Int32} {M : Mm} {v : Int32} {M' : Mm} (hE : Has shM (eH E)) (C : Cx RX10 cX10_sheet 4 p (rmD 7) s m args meth c E) (hr : meth.sig.returnType = (some .int)) (h : b_X10_sheet_67_78 n x2 M = some (v, M')) : G p l e (rmD 7) s m args below meth c E 4 0 0 (QR below args s E 0 0 (some (.int v)) M') 78 [(0, .ref (eA E 67)), (2, .int x2)] [] M := by
  induction n generalizing x2 M with
  | zero => cases h
  | succ n ih => exact gb_X10_sheet_67_78 hE C hr (fun _ _ => ih)  h
def bb_X10_sheet_67_23 (x1 : Int32) (s1 : Int32) (M : Mm) : Option (Int32 × Mm) := bd2 (f_X10_bad_67 s1 (1 : Int32) M) fun v_6 M_5 => if v_6 = 0 then (ltv (wI M_5 67 1 (0 : Int32)) fun M_7 => ltv (wI M_7 67 2 x1) fun M_8 => ltv (wI M_8 67 4 (0 : Int32)) fun M_9 => ltv (wI M_9 67 5 (0 : Int32)) fun M_10 => ltv (wI M_10 67 6 (-1 : Int32)) fun M_11 => ltv (wI M_11 67 7 (0 : Int32)) fun M_12 => ltv (wI M_12 69 0 (0 : Int32)) fun M_13 => ltv (wI M_13 69 1 (0 : Int32)) fun M_14 => b_X10_sheet_67_78 FU (0 : Int32) M_14) else (some ((0 : Int32), M_5))
set_option maxHeartbeats 4000000 in
set_option maxRecDepth 100000 in
theorem gb_X10_sheet_67_23  {x1 : Int32} {s1 : Int32} {M : Mm} {v : Int32} {M' : Mm} (hE : Has shM (eH E)) (C : Cx RX10 cX10_sheet 4 p (rmD 7) s m args meth c E) (hr : meth.sig.returnType = (some .int)) (h : bb_X10_sheet_67_23 x1 s1 M = some (v, M')) : G p l e (rmD 7) s m args below meth c E 4 0 0 (QR below args s E 0 0 (some (.int v)) M') 23 [(0, .ref (eA E 67)), (1, .int x1)] [.int s1, .ref (eA E 67)] M := by
  unfold bb_X10_sheet_67_23 at h
  refine G.iconst (v := (1 : Int32)) C dX10_sheet_23 (by decide) ?_
  obtain ⟨v_6, M_5, hv_4, h⟩ := bd2_ex h
  refine G.callV (rest := []) C (s_X10_bad_67 hE  hv_4) ⟨tg_1600, tg_103, ok_X10_bad, Nat.le_of_ble_eq_true rfl, Nat.le_of_ble_eq_true rfl⟩ tg_1597 tg_1599 tg_46 (sm_67 hE) rfl rfl (Nat.le_of_ble_eq_true rfl) dX10_sheet_24 ⟨Nat.le_refl 0, Nat.le_refl 0⟩ ?_
  refine G.if_eq (tgt := 32) C dX10_sheet_27 (by decide) (fun hc => ?_) (fun hc => ?_)
  · have h := it_t h hc
    refine G.aload_n C 0 dX10_sheet_32 rfl rfl ?_
    refine G.iconst (v := (0 : Int32)) C dX10_sheet_33 (by decide) ?_
    obtain ⟨M_7, eM_7, h⟩ := ltv_ex h
    refine G.putI (k := 1) C k_X10 (sm_67 hE) rfl (by decide) tg_1432 rfl rfl dX10_sheet_34 eM_7 ?_
    refine G.aload_n C 0 dX10_sheet_37 rfl rfl ?_
    refine G.iload_n C 1 dX10_sheet_38 rfl rfl ?_
    obtain ⟨M_8, eM_8, h⟩ := ltv_ex h
    refine G.putI (k := 2) C k_X10 (sm_67 hE) rfl (by decide) tg_1433 rfl rfl dX10_sheet_39 eM_8 ?_
    refine G.aload_n C 0 dX10_sheet_42 rfl rfl ?_
    refine G.iconst (v := (0 : Int32)) C dX10_sheet_43 (by decide) ?_
    obtain ⟨M_9, eM_9, h⟩ := ltv_ex h
    refine G.putI (k := 4) C k_X10 (sm_67 hE) rfl (by decide) tg_1435 rfl rfl dX10_sheet_44 eM_9 ?_
    refine G.aload_n C 0 dX10_sheet_47 rfl rfl ?_
    refine G.iconst (v := (0 : Int32)) C dX10_sheet_48 (by decide) ?_
    obtain ⟨M_10, eM_10, h⟩ := ltv_ex h
    refine G.putI (k := 5) C k_X10 (sm_67 hE) rfl (by decide) tg_1436 rfl rfl dX10_sheet_49 eM_10 ?_
    refine G.aload_n C 0 dX10_sheet_52 rfl rfl ?_
    refine G.iconst (v := (-1 : Int32)) C dX10_sheet_53 (by decide) ?_
    obtain ⟨M_11, eM_11, h⟩ := ltv_ex h
    refine G.putI (k := 6) C k_X10 (sm_67 hE) rfl (by decide) tg_1437 rfl rfl dX10_sheet_54 eM_11 ?_
    refine G.aload_n C 0 dX10_sheet_57 rfl rfl ?_
    refine G.iconst (v := (0 : Int32)) C dX10_sheet_58 (by decide) ?_
    obtain ⟨M_12, eM_12, h⟩ := ltv_ex h
    refine G.putI (k := 7) C k_X10 (sm_67 hE) rfl (by decide) tg_1438 rfl rfl dX10_sheet_59 eM_12 ?_
    refine G.aload_n C 0 dX10_sheet_62 rfl rfl ?_
    refine G.getR (k := 9) C k_X10 (sm_67 hE) rfl (by decide) tg_1440 dX10_sheet_63 ?_
    refine G.iconst (v := (0 : Int32)) C dX10_sheet_66 (by decide) ?_
    refine G.iconst (v := (0 : Int32)) C dX10_sheet_67 (by decide) ?_
    obtain ⟨M_13, eM_13, h⟩ := ltv_ex h
    refine G.sI (j := 0) C (sm_69 hE) (by decide) (by decide) dX10_sheet_68 eM_13 ?_
    refine G.aload_n C 0 dX10_sheet_69 rfl rfl ?_
    refine G.getR (k := 9) C k_X10 (sm_67 hE) rfl (by decide) tg_1440 dX10_sheet_70 ?_
    refine G.iconst (v := (1 : Int32)) C dX10_sheet_73 (by decide) ?_
    refine G.iconst (v := (0 : Int32)) C dX10_sheet_74 (by decide) ?_
    obtain ⟨M_14, eM_14, h⟩ := ltv_ex h
    refine G.sI (j := 1) C (sm_69 hE) (by decide) (by decide) dX10_sheet_75 eM_14 ?_
    refine G.iconst (v := (0 : Int32)) C dX10_sheet_76 (by decide) ?_
    refine G.istore_n (L' := [(2, .int (0 : Int32)), (0, .ref (eA E 67)), (1, .int x1)]) C dX10_sheet_77 rfl rfl (by decide) rfl ?_
    exact G.sub [1, 0] rfl (g_X10_sheet_67_78 hE C hr  h)
  · have h := it_f h hc
    refine G.iconst (v := (0 : Int32)) C dX10_sheet_30 (by decide) ?_
    cases h
    exact G.iret C hr dX10_sheet_31
def bb_X10_sheet_67_0 (x1 : Int32) (M : Mm) : Option (Int32 × Mm) := ltv (wI M 67 0 (0 : Int32)) fun M_1 => bd (f_X10_in x1 (0 : Int32) (M_1.1 67 1)) fun v_3 => if v_3 = 0 then (bb_X10_sheet_67_23 x1 (1 : Int32) M_1) else (bb_X10_sheet_67_23 x1 (0 : Int32) M_1)
set_option maxHeartbeats 4000000 in
set_option maxRecDepth 100000 in
theorem gb_X10_sheet_67_0  {x1 : Int32} {M : Mm} {v : Int32} {M' : Mm} (hE : Has shM (eH E)) (C : Cx RX10 cX10_sheet 4 p (rmD 7) s m args meth c E) (hr : meth.sig.returnType = (some .int)) (h : bb_X10_sheet_67_0 x1 M = some (v, M')) : G p l e (rmD 7) s m args below meth c E 4 0 0 (QR below args s E 0 0 (some (.int v)) M') 0 [(0, .ref (eA E 67)), (1, .int x1)] [] M := by
  unfold bb_X10_sheet_67_0 at h
  refine G.aload_n C 0 dX10_sheet_0 rfl rfl ?_
  refine G.iconst (v := (0 : Int32)) C dX10_sheet_1 (by decide) ?_
  obtain ⟨M_1, eM_1, h⟩ := ltv_ex h
  refine G.putI (k := 0) C k_X10 (sm_67 hE) rfl (by decide) tg_1431 rfl rfl dX10_sheet_2 eM_1 ?_
  refine G.aload_n C 0 dX10_sheet_5 rfl rfl ?_
  refine G.iload_n C 1 dX10_sheet_6 rfl rfl ?_
  refine G.iconst (v := (0 : Int32)) C dX10_sheet_7 (by decide) ?_
  refine G.aload_n C 0 dX10_sheet_8 rfl rfl ?_
  refine G.getI (k := 1) C k_X10 (sm_67 hE) rfl (by decide) tg_1432 dX10_sheet_9 ?_
  obtain ⟨v_3, hv_2, h⟩ := bd_ex h
  refine G.callS (rest := [.ref (eA E 67)]) C (s_X10_in  hv_2) ⟨tg_1596, tg_103, ok_X10_in, Nat.le_of_ble_eq_true rfl, Nat.le_of_ble_eq_true rfl⟩ tg_1594 tg_1595 rfl (Nat.le_of_ble_eq_true rfl) dX10_sheet_12 ⟨Nat.le_refl 0, Nat.le_refl 0⟩ ?_
  refine G.if_ne (tgt := 22) C dX10_sheet_15 (by decide) (fun hc => ?_) (fun hc => ?_)
  · have h := it_f h hc
    refine G.iconst (v := (0 : Int32)) C dX10_sheet_22 (by decide) ?_
    exact G.sub [0, 1] rfl (gb_X10_sheet_67_23 hE C hr  h)
  · have h := it_t h hc
    refine G.iconst (v := (1 : Int32)) C dX10_sheet_18 (by decide) ?_
    refine G.goto (tgt := 23) C dX10_sheet_19 (by decide) ?_
    exact G.sub [0, 1] rfl (gb_X10_sheet_67_23 hE C hr  h)
def f_X10_sheet_67 (x1 : Int32) (M : Mm) : Option (Int32 × Mm) := bb_X10_sheet_67_0 x1 M
theorem s_X10_sheet_67 {l : Launch} {E : Ev} {x1 : Int32} {M : Mm} {v : Int32} {M' : Mm} (hE : Has shM (eH E)) (h : f_X10_sheet_67 x1 M = some (v, M')) : MetA l yX10_sheet cX10_sheet 4 (some .int) 7 E [.ref (eA E 67), .int x1] M (some (.int v)) M' := by
  refine MetA.of (by decide +kernel) (Nat.le_of_ble_eq_true rfl) ?_
  intro p e s m below meth c C hr hnm
  exact G.sub [0, 1] rfl (gb_X10_sheet_67_0 hE C hr  h)
def bb_X10_fault_67_0  (M : Mm) : Option (Int32 × Mm) := ltv (wI M 67 0 (0 : Int32)) fun M_1 => some (M_1.1 67 3, M_1)
set_option maxHeartbeats 4000000 in
set_option maxRecDepth 100000 in
theorem gb_X10_fault_67_0   {M : Mm} {v : Int32} {M' : Mm} (hE : Has shM (eH E)) (C : Cx RX10 cX10_fault 1 p (rmD 1) s m args meth c E) (hr : meth.sig.returnType = (some .int)) (h : bb_X10_fault_67_0 M = some (v, M')) : G p l e (rmD 1) s m args below meth c E 1 0 0 (QR below args s E 0 0 (some (.int v)) M') 0 [(0, .ref (eA E 67))] [] M := by
  unfold bb_X10_fault_67_0 at h
  refine G.aload_n C 0 dX10_fault_0 rfl rfl ?_
  refine G.iconst (v := (0 : Int32)) C dX10_fault_1 (by decide) ?_
  obtain ⟨M_1, eM_1, h⟩ := ltv_ex h
  refine G.putI (k := 0) C k_X10 (sm_67 hE) rfl (by decide) tg_1431 rfl rfl dX10_fault_2 eM_1 ?_
  refine G.aload_n C 0 dX10_fault_5 rfl rfl ?_
  refine G.getI (k := 3) C k_X10 (sm_67 hE) rfl (by decide) tg_1434 dX10_fault_6 ?_
  cases h
  exact G.iret C hr dX10_fault_9
def f_X10_fault_67  (M : Mm) : Option (Int32 × Mm) := bb_X10_fault_67_0 M
theorem s_X10_fault_67 {l : Launch} {E : Ev}  {M : Mm} {v : Int32} {M' : Mm} (hE : Has shM (eH E)) (h : f_X10_fault_67 M = some (v, M')) : MetA l yX10_fault cX10_fault 1 (some .int) 1 E [.ref (eA E 67)] M (some (.int v)) M' := by
  refine MetA.of (by decide +kernel) (Nat.le_of_ble_eq_true rfl) ?_
  intro p e s m below meth c C hr hnm
  exact G.sub [0] rfl (gb_X10_fault_67_0 hE C hr  h)
end
