section
variable {p : Program} {l : Launch} {e : Env} {s : State} {m : MethodId} {args : Array Value} {below : List Frame} {meth : Method} {c : Code} {E : Ev}
def bb_X10_findTakes_67_151 (k_23 : Int64 → Int32 → Mm → Option Mm) (x1 : Int64) (x3 : Int32) (M : Mm) : Option Mm := gd (inb x3 64) (if (M.1 101 (ix x3)) = (-1 : Int32) then (ltv (x3 + (1 : Int32)) fun x3_25 => k_23 x1 x3_25 M) else (gd (inb x3 64) (ltv (M.1 101 (ix x3)) fun y_27 => gd (inb y_27 32) (gd (inb y_27 32) (ltv (wJ M 99 (ix y_27) ((M.2 99 (ix y_27)) ||| (shL (1 : Int64) x3))) fun M_30 => ltv (x3 + (1 : Int32)) fun x3_31 => k_23 x1 x3_31 M_30)))))
set_option maxHeartbeats 4000000 in
set_option maxRecDepth 100000 in
theorem gb_X10_findTakes_67_151  {k_23 : Int64 → Int32 → Mm → Option Mm} {x1 : Int64} {x3 : Int32} {M : Mm} {M' : Mm} (hE : Has shM (eH E)) (C : Cx RX10 cX10_findTakes 6 p (rmD 3) s m args meth c E) (hr : meth.sig.returnType = none) (hk_23 : ∀ (x1 : Int64) (x3 : Int32) (M : Mm), k_23 x1 x3 M = some M' → G p l e (rmD 3) s m args below meth c E 6 0 0 (QR below args s E 0 0 none M') 23 [(0, .ref (eA E 67)), (1, .long x1), (3, .int x3)] [] M) (h : bb_X10_findTakes_67_151 k_23 x1 x3 M = some M') : G p l e (rmD 3) s m args below meth c E 6 0 0 (QR below args s E 0 0 none M') 151 [(0, .ref (eA E 67)), (1, .long x1), (3, .int x3)] [] M := by
  unfold bb_X10_findTakes_67_151 at h
  refine G.aload_n C 0 dX10_findTakes_151 rfl rfl ?_
  refine G.getR (k := 34) C k_X10 (sm_67 hE) rfl (by decide) tg_1465 dX10_findTakes_152 ?_
  refine G.iload_n C 2 dX10_findTakes_155 rfl rfl ?_
  obtain ⟨hg_24, h⟩ := gd_ex h
  refine G.aI (j := ix x3) C (sm_101 hE) hg_24 rfl dX10_findTakes_156 ?_
  refine G.iconst (v := (-1 : Int32)) C dX10_findTakes_157 (by decide) ?_
  refine G.icmp_eq (tgt := 178) C dX10_findTakes_158 (by decide) (fun hc => ?_) (fun hc => ?_)
  · have h := it_t h hc
    obtain ⟨x3_25, ex3_25, h⟩ := ltv_ex h
    refine G.iinc (L' := [(3, .int x3_25), (0, .ref (eA E 67)), (1, .long x1)]) C 2 dX10_findTakes_178 rfl (ex3_25.trans rfl) (by decide) rfl ?_
    refine G.goto (tgt := 23) C dX10_findTakes_181 (by decide) ?_
    exact G.sub [1, 2, 0] rfl (hk_23 _ _ _  h)
  · have h := it_f h hc
    refine G.aload_n C 0 dX10_findTakes_161 rfl rfl ?_
    refine G.getR (k := 32) C k_X10 (sm_67 hE) rfl (by decide) tg_1463 dX10_findTakes_162 ?_
    refine G.aload_n C 0 dX10_findTakes_165 rfl rfl ?_
    refine G.getR (k := 34) C k_X10 (sm_67 hE) rfl (by decide) tg_1465 dX10_findTakes_166 ?_
    refine G.iload_n C 2 dX10_findTakes_169 rfl rfl ?_
    obtain ⟨hg_26, h⟩ := gd_ex h
    refine G.aI (j := ix x3) C (sm_101 hE) hg_26 rfl dX10_findTakes_170 ?_
    obtain ⟨y_27, ey_27, h⟩ := ltv_ex h
    rw [← ey_27]
    refine G.dup2_11 C dX10_findTakes_171 rfl rfl ?_
    obtain ⟨hg_28, h⟩ := gd_ex h
    refine G.aJ (j := ix y_27) C (sm_99 hE) hg_28 rfl dX10_findTakes_172 ?_
    refine G.lconst (v := (1 : Int64)) C dX10_findTakes_173 (by decide) ?_
    refine G.iload_n C 2 dX10_findTakes_174 rfl rfl ?_
    refine G.lshl (v := shL (1 : Int64) x3) C dX10_findTakes_175 rfl ?_
    refine G.lor C dX10_findTakes_176 ?_
    obtain ⟨hg_29, h⟩ := gd_ex h
    obtain ⟨M_30, eM_30, h⟩ := ltv_ex h
    refine G.sJ (j := (ix y_27)) C (sm_99 hE) hg_29 rfl dX10_findTakes_177 eM_30 ?_
    obtain ⟨x3_31, ex3_31, h⟩ := ltv_ex h
    refine G.iinc (L' := [(3, .int x3_31), (0, .ref (eA E 67)), (1, .long x1)]) C 2 dX10_findTakes_178 rfl (ex3_31.trans rfl) (by decide) rfl ?_
    refine G.goto (tgt := 23) C dX10_findTakes_181 (by decide) ?_
    exact G.sub [1, 2, 0] rfl (hk_23 _ _ _  h)
def bb_X10_findTakes_67_123 (k_23 : Int64 → Int32 → Mm → Option Mm) (x1 : Int64) (x3 : Int32) (s1 : Int32) (s2 : Int32) (M : Mm) : Option Mm := gd (inb s1 64) (ltv (wI M 101 (ix s1) s2) fun M_17 => gd (inb x3 64) (if (M_17.1 100 (ix x3)) = (-1 : Int32) then (bb_X10_findTakes_67_151 k_23 x1 x3 M_17) else (gd (inb x3 64) (ltv (M_17.1 100 (ix x3)) fun y_20 => gd (inb y_20 32) (gd (inb y_20 32) (ltv (wJ M_17 99 (ix y_20) ((M_17.2 99 (ix y_20)) ||| (shL (1 : Int64) x3))) fun M_23 => bb_X10_findTakes_67_151 k_23 x1 x3 M_23))))))
set_option maxHeartbeats 4000000 in
set_option maxRecDepth 100000 in
theorem gb_X10_findTakes_67_123  {k_23 : Int64 → Int32 → Mm → Option Mm} {x1 : Int64} {x3 : Int32} {s1 : Int32} {s2 : Int32} {M : Mm} {M' : Mm} (hE : Has shM (eH E)) (C : Cx RX10 cX10_findTakes 6 p (rmD 3) s m args meth c E) (hr : meth.sig.returnType = none) (hk_23 : ∀ (x1 : Int64) (x3 : Int32) (M : Mm), k_23 x1 x3 M = some M' → G p l e (rmD 3) s m args below meth c E 6 0 0 (QR below args s E 0 0 none M') 23 [(0, .ref (eA E 67)), (1, .long x1), (3, .int x3)] [] M) (h : bb_X10_findTakes_67_123 k_23 x1 x3 s1 s2 M = some M') : G p l e (rmD 3) s m args below meth c E 6 0 0 (QR below args s E 0 0 none M') 123 [(0, .ref (eA E 67)), (1, .long x1), (3, .int x3)] [.int s2, .int s1, .ref (eA E 101)] M := by
  unfold bb_X10_findTakes_67_123 at h
  obtain ⟨hg_16, h⟩ := gd_ex h
  obtain ⟨M_17, eM_17, h⟩ := ltv_ex h
  refine G.sI (j := (ix s1)) C (sm_101 hE) hg_16 rfl dX10_findTakes_123 eM_17 ?_
  refine G.aload_n C 0 dX10_findTakes_124 rfl rfl ?_
  refine G.getR (k := 33) C k_X10 (sm_67 hE) rfl (by decide) tg_1464 dX10_findTakes_125 ?_
  refine G.iload_n C 2 dX10_findTakes_128 rfl rfl ?_
  obtain ⟨hg_18, h⟩ := gd_ex h
  refine G.aI (j := ix x3) C (sm_100 hE) hg_18 rfl dX10_findTakes_129 ?_
  refine G.iconst (v := (-1 : Int32)) C dX10_findTakes_130 (by decide) ?_
  refine G.icmp_eq (tgt := 151) C dX10_findTakes_131 (by decide) (fun hc => ?_) (fun hc => ?_)
  · have h := it_t h hc
    exact G.sub [0, 1, 2] rfl (gb_X10_findTakes_67_151 hE C hr hk_23  h)
  · have h := it_f h hc
    refine G.aload_n C 0 dX10_findTakes_134 rfl rfl ?_
    refine G.getR (k := 32) C k_X10 (sm_67 hE) rfl (by decide) tg_1463 dX10_findTakes_135 ?_
    refine G.aload_n C 0 dX10_findTakes_138 rfl rfl ?_
    refine G.getR (k := 33) C k_X10 (sm_67 hE) rfl (by decide) tg_1464 dX10_findTakes_139 ?_
    refine G.iload_n C 2 dX10_findTakes_142 rfl rfl ?_
    obtain ⟨hg_19, h⟩ := gd_ex h
    refine G.aI (j := ix x3) C (sm_100 hE) hg_19 rfl dX10_findTakes_143 ?_
    obtain ⟨y_20, ey_20, h⟩ := ltv_ex h
    rw [← ey_20]
    refine G.dup2_11 C dX10_findTakes_144 rfl rfl ?_
    obtain ⟨hg_21, h⟩ := gd_ex h
    refine G.aJ (j := ix y_20) C (sm_99 hE) hg_21 rfl dX10_findTakes_145 ?_
    refine G.lconst (v := (1 : Int64)) C dX10_findTakes_146 (by decide) ?_
    refine G.iload_n C 2 dX10_findTakes_147 rfl rfl ?_
    refine G.lshl (v := shL (1 : Int64) x3) C dX10_findTakes_148 rfl ?_
    refine G.lor C dX10_findTakes_149 ?_
    obtain ⟨hg_22, h⟩ := gd_ex h
    obtain ⟨M_23, eM_23, h⟩ := ltv_ex h
    refine G.sJ (j := (ix y_20)) C (sm_99 hE) hg_22 rfl dX10_findTakes_150 eM_23 ?_
    exact G.sub [0, 1, 2] rfl (gb_X10_findTakes_67_151 hE C hr hk_23  h)
def bb_X10_findTakes_67_80 (k_23 : Int64 → Int32 → Mm → Option Mm) (x1 : Int64) (x3 : Int32) (x4 : Int32) (s1 : Int32) (s2 : Int32) (M : Mm) : Option Mm := gd (inb s1 64) (ltv (wI M 100 (ix s1) s2) fun M_11 => bd (f_X10_isOpen x1 x3 (0 : Int32) (-1 : Int32)) fun v_13 => if v_13 = 0 then (bd (f_X10_isOpen x1 x3 (0 : Int32) (1 : Int32)) fun v_15 => if v_15 = 0 then (bb_X10_findTakes_67_123 k_23 x1 x3 x3 (-1 : Int32) M_11) else (bb_X10_findTakes_67_123 k_23 x1 x3 x3 ((24 : Int32) + x4) M_11)) else (bb_X10_findTakes_67_123 k_23 x1 x3 x3 ((16 : Int32) + x4) M_11))
set_option maxHeartbeats 4000000 in
set_option maxRecDepth 100000 in
theorem gb_X10_findTakes_67_80  {k_23 : Int64 → Int32 → Mm → Option Mm} {x1 : Int64} {x3 : Int32} {x4 : Int32} {s1 : Int32} {s2 : Int32} {M : Mm} {M' : Mm} (hE : Has shM (eH E)) (C : Cx RX10 cX10_findTakes 6 p (rmD 3) s m args meth c E) (hr : meth.sig.returnType = none) (hk_23 : ∀ (x1 : Int64) (x3 : Int32) (M : Mm), k_23 x1 x3 M = some M' → G p l e (rmD 3) s m args below meth c E 6 0 0 (QR below args s E 0 0 none M') 23 [(0, .ref (eA E 67)), (1, .long x1), (3, .int x3)] [] M) (h : bb_X10_findTakes_67_80 k_23 x1 x3 x4 s1 s2 M = some M') : G p l e (rmD 3) s m args below meth c E 6 0 0 (QR below args s E 0 0 none M') 80 [(0, .ref (eA E 67)), (1, .long x1), (3, .int x3), (4, .int x4)] [.int s2, .int s1, .ref (eA E 100)] M := by
  unfold bb_X10_findTakes_67_80 at h
  obtain ⟨hg_10, h⟩ := gd_ex h
  obtain ⟨M_11, eM_11, h⟩ := ltv_ex h
  refine G.sI (j := (ix s1)) C (sm_100 hE) hg_10 rfl dX10_findTakes_80 eM_11 ?_
  refine G.aload_n C 0 dX10_findTakes_81 rfl rfl ?_
  refine G.getR (k := 34) C k_X10 (sm_67 hE) rfl (by decide) tg_1465 dX10_findTakes_82 ?_
  refine G.iload_n C 2 dX10_findTakes_85 rfl rfl ?_
  refine G.lload_n C 1 dX10_findTakes_86 rfl rfl ?_
  refine G.iload_n C 2 dX10_findTakes_87 rfl rfl ?_
  refine G.iconst (v := (0 : Int32)) C dX10_findTakes_88 (by decide) ?_
  refine G.iconst (v := (-1 : Int32)) C dX10_findTakes_89 (by decide) ?_
  obtain ⟨v_13, hv_12, h⟩ := bd_ex h
  refine G.callS (rest := [.int x3, .ref (eA E 101)]) C (s_X10_isOpen  hv_12) ⟨tg_1680, tg_103, ok_X10_isOpen, Nat.le_of_ble_eq_true rfl, Nat.le_of_ble_eq_true rfl⟩ tg_1678 tg_1679 rfl (Nat.le_of_ble_eq_true rfl) dX10_findTakes_90 ⟨Nat.le_refl 0, Nat.le_refl 0⟩ ?_
  refine G.if_eq (tgt := 104) C dX10_findTakes_93 (by decide) (fun hc => ?_) (fun hc => ?_)
  · have h := it_t h hc
    refine G.lload_n C 1 dX10_findTakes_104 rfl rfl ?_
    refine G.iload_n C 2 dX10_findTakes_105 rfl rfl ?_
    refine G.iconst (v := (0 : Int32)) C dX10_findTakes_106 (by decide) ?_
    refine G.iconst (v := (1 : Int32)) C dX10_findTakes_107 (by decide) ?_
    obtain ⟨v_15, hv_14, h⟩ := bd_ex h
    refine G.callS (rest := [.int x3, .ref (eA E 101)]) C (s_X10_isOpen  hv_14) ⟨tg_1680, tg_103, ok_X10_isOpen, Nat.le_of_ble_eq_true rfl, Nat.le_of_ble_eq_true rfl⟩ tg_1678 tg_1679 rfl (Nat.le_of_ble_eq_true rfl) dX10_findTakes_108 ⟨Nat.le_refl 0, Nat.le_refl 0⟩ ?_
    refine G.if_eq (tgt := 122) C dX10_findTakes_111 (by decide) (fun hc => ?_) (fun hc => ?_)
    · have h := it_t h hc
      refine G.iconst (v := (-1 : Int32)) C dX10_findTakes_122 (by decide) ?_
      exact G.sub [0, 1, 2] rfl (gb_X10_findTakes_67_123 hE C hr hk_23  h)
    · have h := it_f h hc
      refine G.bipush (v := (24 : Int32)) C dX10_findTakes_114 (by decide) ?_
      refine G.iload C 3 dX10_findTakes_116 rfl ?_
      refine G.iadd C dX10_findTakes_118 ?_
      refine G.goto (tgt := 123) C dX10_findTakes_119 (by decide) ?_
      exact G.sub [0, 1, 2] rfl (gb_X10_findTakes_67_123 hE C hr hk_23  h)
  · have h := it_f h hc
    refine G.bipush (v := (16 : Int32)) C dX10_findTakes_96 (by decide) ?_
    refine G.iload C 3 dX10_findTakes_98 rfl ?_
    refine G.iadd C dX10_findTakes_100 ?_
    refine G.goto (tgt := 123) C dX10_findTakes_101 (by decide) ?_
    exact G.sub [0, 1, 2] rfl (gb_X10_findTakes_67_123 hE C hr hk_23  h)
def bb_X10_findTakes_67_23 (k_23 : Int64 → Int32 → Mm → Option Mm) (x1 : Int64) (x3 : Int32) (M : Mm) : Option Mm := if (64 : Int32) ≤ x3 then (some M) else (ltv (rmI x3 (8 : Int32)) fun x4_4 => ltv (x3 / (8 : Int32)) fun x5_5 => bd (f_X10_isOpen x1 x3 (-1 : Int32) (0 : Int32)) fun v_7 => if v_7 = 0 then (bd (f_X10_isOpen x1 x3 (1 : Int32) (0 : Int32)) fun v_9 => if v_9 = 0 then (bb_X10_findTakes_67_80 k_23 x1 x3 x4_4 x3 (-1 : Int32) M) else (bb_X10_findTakes_67_80 k_23 x1 x3 x4_4 x3 ((8 : Int32) + x5_5) M)) else (bb_X10_findTakes_67_80 k_23 x1 x3 x4_4 x3 x5_5 M))
set_option maxHeartbeats 4000000 in
set_option maxRecDepth 100000 in
theorem gb_X10_findTakes_67_23  {k_23 : Int64 → Int32 → Mm → Option Mm} {x1 : Int64} {x3 : Int32} {M : Mm} {M' : Mm} (hE : Has shM (eH E)) (C : Cx RX10 cX10_findTakes 6 p (rmD 3) s m args meth c E) (hr : meth.sig.returnType = none) (hk_23 : ∀ (x1 : Int64) (x3 : Int32) (M : Mm), k_23 x1 x3 M = some M' → G p l e (rmD 3) s m args below meth c E 6 0 0 (QR below args s E 0 0 none M') 23 [(0, .ref (eA E 67)), (1, .long x1), (3, .int x3)] [] M) (h : bb_X10_findTakes_67_23 k_23 x1 x3 M = some M') : G p l e (rmD 3) s m args below meth c E 6 0 0 (QR below args s E 0 0 none M') 23 [(0, .ref (eA E 67)), (1, .long x1), (3, .int x3)] [] M := by
  unfold bb_X10_findTakes_67_23 at h
  refine G.iload_n C 2 dX10_findTakes_23 rfl rfl ?_
  refine G.bipush (v := (64 : Int32)) C dX10_findTakes_24 (by decide) ?_
  refine G.icmp_ge (tgt := 184) C dX10_findTakes_26 (by decide) (fun hc => ?_) (fun hc => ?_)
  · have h := it_t h hc
    cases h
    exact G.vret C hr dX10_findTakes_184
  · have h := it_f h hc
    refine G.iload_n C 2 dX10_findTakes_29 rfl rfl ?_
    refine G.bipush (v := (8 : Int32)) C dX10_findTakes_30 (by decide) ?_
    refine G.irm C dX10_findTakes_32 (by decide) ?_
    obtain ⟨x4_4, ex4_4, h⟩ := ltv_ex h
    refine G.istore (L' := [(4, .int x4_4), (0, .ref (eA E 67)), (1, .long x1), (3, .int x3)]) C dX10_findTakes_33 ex4_4 (by decide) rfl ?_
    refine G.iload_n C 3 dX10_findTakes_35 rfl rfl ?_
    refine G.bipush (v := (8 : Int32)) C dX10_findTakes_36 (by decide) ?_
    refine G.idiv C dX10_findTakes_38 (by decide) ?_
    obtain ⟨x5_5, ex5_5, h⟩ := ltv_ex h
    refine G.istore (L' := [(5, .int x5_5), (4, .int x4_4), (0, .ref (eA E 67)), (1, .long x1), (3, .int x3)]) C dX10_findTakes_39 ex5_5 (by decide) rfl ?_
    refine G.aload_n C 2 dX10_findTakes_41 rfl rfl ?_
    refine G.getR (k := 33) C k_X10 (sm_67 hE) rfl (by decide) tg_1464 dX10_findTakes_42 ?_
    refine G.iload_n C 4 dX10_findTakes_45 rfl rfl ?_
    refine G.lload_n C 3 dX10_findTakes_46 rfl rfl ?_
    refine G.iload_n C 4 dX10_findTakes_47 rfl rfl ?_
    refine G.iconst (v := (-1 : Int32)) C dX10_findTakes_48 (by decide) ?_
    refine G.iconst (v := (0 : Int32)) C dX10_findTakes_49 (by decide) ?_
    obtain ⟨v_7, hv_6, h⟩ := bd_ex h
    refine G.callS (rest := [.int x3, .ref (eA E 100)]) C (s_X10_isOpen  hv_6) ⟨tg_1680, tg_103, ok_X10_isOpen, Nat.le_of_ble_eq_true rfl, Nat.le_of_ble_eq_true rfl⟩ tg_1678 tg_1679 rfl (Nat.le_of_ble_eq_true rfl) dX10_findTakes_50 ⟨Nat.le_refl 0, Nat.le_refl 0⟩ ?_
    refine G.if_eq (tgt := 61) C dX10_findTakes_53 (by decide) (fun hc => ?_) (fun hc => ?_)
    · have h := it_t h hc
      refine G.lload_n C 3 dX10_findTakes_61 rfl rfl ?_
      refine G.iload_n C 4 dX10_findTakes_62 rfl rfl ?_
      refine G.iconst (v := (1 : Int32)) C dX10_findTakes_63 (by decide) ?_
      refine G.iconst (v := (0 : Int32)) C dX10_findTakes_64 (by decide) ?_
      obtain ⟨v_9, hv_8, h⟩ := bd_ex h
      refine G.callS (rest := [.int x3, .ref (eA E 100)]) C (s_X10_isOpen  hv_8) ⟨tg_1680, tg_103, ok_X10_isOpen, Nat.le_of_ble_eq_true rfl, Nat.le_of_ble_eq_true rfl⟩ tg_1678 tg_1679 rfl (Nat.le_of_ble_eq_true rfl) dX10_findTakes_65 ⟨Nat.le_refl 0, Nat.le_refl 0⟩ ?_
      refine G.if_eq (tgt := 79) C dX10_findTakes_68 (by decide) (fun hc => ?_) (fun hc => ?_)
      · have h := it_t h hc
        refine G.iconst (v := (-1 : Int32)) C dX10_findTakes_79 (by decide) ?_
        exact G.sub [2, 3, 4, 1] rfl (gb_X10_findTakes_67_80 hE C hr hk_23  h)
      · have h := it_f h hc
        refine G.bipush (v := (8 : Int32)) C dX10_findTakes_71 (by decide) ?_
        refine G.iload C 0 dX10_findTakes_73 rfl ?_
        refine G.iadd C dX10_findTakes_75 ?_
        refine G.goto (tgt := 80) C dX10_findTakes_76 (by decide) ?_
        exact G.sub [2, 3, 4, 1] rfl (gb_X10_findTakes_67_80 hE C hr hk_23  h)
    · have h := it_f h hc
      refine G.iload C 0 dX10_findTakes_56 rfl ?_
      refine G.goto (tgt := 80) C dX10_findTakes_58 (by decide) ?_
      exact G.sub [2, 3, 4, 1] rfl (gb_X10_findTakes_67_80 hE C hr hk_23  h)
def b_X10_findTakes_67_23 : Nat → Int64 → Int32 → Mm → Option Mm
  | 0, _, _, _ => none
  | n + 1, x1, x3, M => bb_X10_findTakes_67_23 (b_X10_findTakes_67_23 n) x1 x3 M
set_option maxHeartbeats 4000000 in
theorem g_X10_findTakes_67_23  {n : Nat} {x1 : Int64} {x3 : Int32} {M : Mm} {M' : Mm} (hE : Has shM (eH E)) (C : Cx RX10 cX10_findTakes 6 p (rmD 3) s m args meth c E) (hr : meth.sig.returnType = none) (h : b_X10_findTakes_67_23 n x1 x3 M = some M') : G p l e (rmD 3) s m args below meth c E 6 0 0 (QR below args s E 0 0 none M') 23 [(0, .ref (eA E 67)), (1, .long x1), (3, .int x3)] [] M := by
  induction n generalizing x1 x3 M with
  | zero => cases h
  | succ n ih => exact gb_X10_findTakes_67_23 hE C hr (fun _ _ _ => ih)  h
def bb_X10_findTakes_67_2 (k_2 : Int64 → Int32 → Mm → Option Mm) (x1 : Int64) (x3 : Int32) (M : Mm) : Option Mm := if (32 : Int32) ≤ x3 then (b_X10_findTakes_67_23 FU x1 (0 : Int32) M) else (gd (inb x3 32) (ltv (wJ M 99 (ix x3) (0 : Int64)) fun M_2 => ltv (x3 + (1 : Int32)) fun x3_3 => k_2 x1 x3_3 M_2))
set_option maxHeartbeats 4000000 in
set_option maxRecDepth 100000 in
theorem gb_X10_findTakes_67_2  {k_2 : Int64 → Int32 → Mm → Option Mm} {x1 : Int64} {x3 : Int32} {M : Mm} {M' : Mm} (hE : Has shM (eH E)) (C : Cx RX10 cX10_findTakes 6 p (rmD 3) s m args meth c E) (hr : meth.sig.returnType = none) (hk_2 : ∀ (x1 : Int64) (x3 : Int32) (M : Mm), k_2 x1 x3 M = some M' → G p l e (rmD 3) s m args below meth c E 6 0 0 (QR below args s E 0 0 none M') 2 [(0, .ref (eA E 67)), (1, .long x1), (3, .int x3)] [] M) (h : bb_X10_findTakes_67_2 k_2 x1 x3 M = some M') : G p l e (rmD 3) s m args below meth c E 6 0 0 (QR below args s E 0 0 none M') 2 [(0, .ref (eA E 67)), (1, .long x1), (3, .int x3)] [] M := by
  unfold bb_X10_findTakes_67_2 at h
  refine G.iload_n C 2 dX10_findTakes_2 rfl rfl ?_
  refine G.bipush (v := (32 : Int32)) C dX10_findTakes_3 (by decide) ?_
  refine G.icmp_ge (tgt := 21) C dX10_findTakes_5 (by decide) (fun hc => ?_) (fun hc => ?_)
  · have h := it_t h hc
    refine G.iconst (v := (0 : Int32)) C dX10_findTakes_21 (by decide) ?_
    refine G.istore_n (L' := [(3, .int (0 : Int32)), (0, .ref (eA E 67)), (1, .long x1)]) C dX10_findTakes_22 rfl rfl (by decide) rfl ?_
    exact G.sub [1, 2, 0] rfl (g_X10_findTakes_67_23 hE C hr  h)
  · have h := it_f h hc
    refine G.aload_n C 0 dX10_findTakes_8 rfl rfl ?_
    refine G.getR (k := 32) C k_X10 (sm_67 hE) rfl (by decide) tg_1463 dX10_findTakes_9 ?_
    refine G.iload_n C 2 dX10_findTakes_12 rfl rfl ?_
    refine G.lconst (v := (0 : Int64)) C dX10_findTakes_13 (by decide) ?_
    obtain ⟨hg_1, h⟩ := gd_ex h
    obtain ⟨M_2, eM_2, h⟩ := ltv_ex h
    refine G.sJ (j := (ix x3)) C (sm_99 hE) hg_1 rfl dX10_findTakes_14 eM_2 ?_
    obtain ⟨x3_3, ex3_3, h⟩ := ltv_ex h
    refine G.iinc (L' := [(3, .int x3_3), (0, .ref (eA E 67)), (1, .long x1)]) C 2 dX10_findTakes_15 rfl (ex3_3.trans rfl) (by decide) rfl ?_
    refine G.goto (tgt := 2) C dX10_findTakes_18 (by decide) ?_
    exact G.sub [1, 2, 0] rfl (hk_2 _ _ _  h)
def b_X10_findTakes_67_2 : Nat → Int64 → Int32 → Mm → Option Mm
  | 0, _, _, _ => none
  | n + 1, x1, x3, M => bb_X10_findTakes_67_2 (b_X10_findTakes_67_2 n) x1 x3 M
set_option maxHeartbeats 4000000 in
theorem g_X10_findTakes_67_2  {n : Nat} {x1 : Int64} {x3 : Int32} {M : Mm} {M' : Mm} (hE : Has shM (eH E)) (C : Cx RX10 cX10_findTakes 6 p (rmD 3) s m args meth c E) (hr : meth.sig.returnType = none) (h : b_X10_findTakes_67_2 n x1 x3 M = some M') : G p l e (rmD 3) s m args below meth c E 6 0 0 (QR below args s E 0 0 none M') 2 [(0, .ref (eA E 67)), (1, .long x1), (3, .int x3)] [] M := by
  induction n generalizing x1 x3 M with
  | zero => cases h
  | succ n ih => exact gb_X10_findTakes_67_2 hE C hr (fun _ _ _ => ih)  h
def bb_X10_findTakes_67_0 (x1 : Int64) (M : Mm) : Option Mm := b_X10_findTakes_67_2 FU x1 (0 : Int32) M
set_option maxHeartbeats 4000000 in
set_option maxRecDepth 100000 in
theorem gb_X10_findTakes_67_0  {x1 : Int64} {M : Mm} {M' : Mm} (hE : Has shM (eH E)) (C : Cx RX10 cX10_findTakes 6 p (rmD 3) s m args meth c E) (hr : meth.sig.returnType = none) (h : bb_X10_findTakes_67_0 x1 M = some M') : G p l e (rmD 3) s m args below meth c E 6 0 0 (QR below args s E 0 0 none M') 0 [(0, .ref (eA E 67)), (1, .long x1)] [] M := by
  unfold bb_X10_findTakes_67_0 at h
  refine G.iconst (v := (0 : Int32)) C dX10_findTakes_0 (by decide) ?_
  refine G.istore_n (L' := [(3, .int (0 : Int32)), (0, .ref (eA E 67)), (1, .long x1)]) C dX10_findTakes_1 rfl rfl (by decide) rfl ?_
  exact G.sub [1, 2, 0] rfl (g_X10_findTakes_67_2 hE C hr  h)
def f_X10_findTakes_67 (x1 : Int64) (M : Mm) : Option Mm := bb_X10_findTakes_67_0 x1 M
theorem s_X10_findTakes_67 {l : Launch} {E : Ev} {x1 : Int64} {M : Mm} {M' : Mm} (hE : Has shM (eH E)) (h : f_X10_findTakes_67 x1 M = some M') : MetA l yX10_findTakes cX10_findTakes 6 none 3 E [.ref (eA E 67), .long x1] M none M' := by
  refine MetA.of (by decide +kernel) (Nat.le_of_ble_eq_true rfl) ?_
  intro p e s m below meth c C hr hnm
  exact G.sub [0, 1] rfl (gb_X10_findTakes_67_0 hE C hr  h)
def bb_X10_mayTake_0 (x0 : Int32) (x1 : Int32) : Option Int32 := if x0 = (-1 : Int32) then (some (0 : Int32)) else (if ((shrI x1 x0) &&& (1 : Int32)) = 0 then (some (1 : Int32)) else (some (0 : Int32)))
set_option maxHeartbeats 4000000 in
set_option maxRecDepth 100000 in
theorem gb_X10_mayTake_0 {M : Mm}  {x0 : Int32} {x1 : Int32} {v : Int32} (C : Cx RX10 cX10_mayTake 2 p (rmD 1) s m args meth c E) (hr : meth.sig.returnType = (some .boolean)) (h : bb_X10_mayTake_0 x0 x1 = some v) : G p l e (rmD 1) s m args below meth c E 2 0 0 (QR below args s E 0 0 (some (.int v)) M) 0 [(0, .int x0), (1, .int x1)] [] M := by
  unfold bb_X10_mayTake_0 at h
  refine G.iload_n C 0 dX10_mayTake_0 rfl rfl ?_
  refine G.iconst (v := (-1 : Int32)) C dX10_mayTake_1 (by decide) ?_
  refine G.icmp_eq (tgt := 17) C dX10_mayTake_2 (by decide) (fun hc => ?_) (fun hc => ?_)
  · have h := it_t h hc
    refine G.iconst (v := (0 : Int32)) C dX10_mayTake_17 (by decide) ?_
    cases h
    exact G.zret C hr rfl dX10_mayTake_18
  · have h := it_f h hc
    refine G.iload_n C 1 dX10_mayTake_5 rfl rfl ?_
    refine G.iload_n C 0 dX10_mayTake_6 rfl rfl ?_
    refine G.isr C dX10_mayTake_7 ?_
    refine G.iconst (v := (1 : Int32)) C dX10_mayTake_8 (by decide) ?_
    refine G.iand C dX10_mayTake_9 ?_
    refine G.if_ne (tgt := 17) C dX10_mayTake_10 (by decide) (fun hc => ?_) (fun hc => ?_)
    · have h := it_f h hc
      refine G.iconst (v := (0 : Int32)) C dX10_mayTake_17 (by decide) ?_
      cases h
      exact G.zret C hr rfl dX10_mayTake_18
    · have h := it_t h hc
      refine G.iconst (v := (1 : Int32)) C dX10_mayTake_13 (by decide) ?_
      refine G.goto (tgt := 18) C dX10_mayTake_14 (by decide) ?_
      cases h
      exact G.zret C hr rfl dX10_mayTake_18
def f_X10_mayTake (x0 : Int32) (x1 : Int32) : Option Int32 := bb_X10_mayTake_0 x0 x1
theorem s_X10_mayTake {l : Launch} {E : Ev} {x0 : Int32} {x1 : Int32} {M : Mm} {v : Int32} (h : f_X10_mayTake x0 x1 = some v) : MetA l yX10_mayTake cX10_mayTake 2 (some .boolean) 1 E [.int x0, .int x1] M (some (.int v)) M := by
  refine MetA.of (by decide +kernel) (Nat.le_of_ble_eq_true rfl) ?_
  intro p e s m below meth c C hr hnm
  exact G.sub [0, 1] rfl (gb_X10_mayTake_0 C hr  h)
def bb_X10_pairs_67_17 (rc : Int64 → Int32 → Mm → Option (Int32 × Mm)) (k_17 : Int64 → Int32 → Int32 → Mm → Option (Int32 × Mm)) (x1 : Int64) (x3 : Int32) (x4 : Int32) (M : Mm) : Option (Int32 × Mm) := if (64 : Int32) ≤ x4 then (some ((0 : Int32), M)) else (gd (inb x4 64) (ltv (M.1 101 (ix x4)) fun x5_2 => bd (f_X10_is x1 x4) fun v_4 => if v_4 = 0 then (ltv (x4 + (1 : Int32)) fun x4_5 => k_17 x1 x3 x4_5 M) else (gd (inb x4 64) (if (M.1 100 (ix x4)) = x3 then (if x5_2 = (-1 : Int32) then (ltv (x4 + (1 : Int32)) fun x4_8 => k_17 x1 x3 x4_8 M) else (if ((shrI (M.1 67 37) x5_2) &&& (1 : Int32)) = (1 : Int32) then (ltv (x4 + (1 : Int32)) fun x4_9 => k_17 x1 x3 x4_9 M) else (gd (inb x5_2 32) (if (M.1 103 (ix x5_2)) = 0 then (gd (inb x5_2 32) (ltv (wI M 103 (ix x5_2) (vp_nar .boolean (1 : Int32))) fun M_12 => gd (inb x5_2 32) (if (M_12.1 102 (ix x5_2)) = (-1 : Int32) then (gd (inb x5_2 32) (ltv (wI M_12 102 (ix x5_2) x3) fun M_15 => some ((1 : Int32), M_15))) else (gd (inb x5_2 32) (bd2 (rc x1 (M_12.1 102 (ix x5_2)) M_12) fun v_19 M_18 => if v_19 = 0 then (ltv (x4 + (1 : Int32)) fun x4_22 => k_17 x1 x3 x4_22 M_18) else (gd (inb x5_2 32) (ltv (wI M_18 102 (ix x5_2) x3) fun M_21 => some ((1 : Int32), M_21)))))))) else (ltv (x4 + (1 : Int32)) fun x4_23 => k_17 x1 x3 x4_23 M))))) else (ltv (x4 + (1 : Int32)) fun x4_7 => k_17 x1 x3 x4_7 M)))))
set_option maxHeartbeats 4000000 in
set_option maxRecDepth 100000 in
theorem gb_X10_pairs_67_17 {dd : Nat}  {rc : Int64 → Int32 → Mm → Option (Int32 × Mm)} {k_17 : Int64 → Int32 → Int32 → Mm → Option (Int32 × Mm)} {x1 : Int64} {x3 : Int32} {x4 : Int32} {M : Mm} {v : Int32} {M' : Mm} (hE : Has shM (eH E)) (C : Cx RX10 cX10_pairs 6 p (rmD (2 + dd)) s m args meth c E) (hr : meth.sig.returnType = (some .boolean)) (hrc : ∀ (x1 : Int64) (x3 : Int32) (M : Mm) (v : Int32) (M' : Mm), rc x1 x3 M = some (v, M') → MetA l yX10_pairs cX10_pairs 6 (some .boolean) (1 + dd) E [.ref (eA E 67), .long x1, .int x3] M (some (.int v)) M') (hk_17 : ∀ (x1 : Int64) (x3 : Int32) (x4 : Int32) (M : Mm), k_17 x1 x3 x4 M = some (v, M') → G p l e (rmD (2 + dd)) s m args below meth c E 6 0 0 (QR below args s E 0 0 (some (.int v)) M') 17 [(0, .ref (eA E 67)), (1, .long x1), (3, .int x3), (4, .int x4)] [] M) (h : bb_X10_pairs_67_17 rc k_17 x1 x3 x4 M = some (v, M')) : G p l e (rmD (2 + dd)) s m args below meth c E 6 0 0 (QR below args s E 0 0 (some (.int v)) M') 17 [(0, .ref (eA E 67)), (1, .long x1), (3, .int x3), (4, .int x4)] [] M := by
  unfold bb_X10_pairs_67_17 at h
  refine G.iload C 3 dX10_pairs_17 rfl ?_
  refine G.bipush (v := (64 : Int32)) C dX10_pairs_19 (by decide) ?_
  refine G.icmp_ge (tgt := 138) C dX10_pairs_21 (by decide) (fun hc => ?_) (fun hc => ?_)
  · have h := it_t h hc
    refine G.iconst (v := (0 : Int32)) C dX10_pairs_138 (by decide) ?_
    cases h
    exact G.zret C hr rfl dX10_pairs_139
  · have h := it_f h hc
    refine G.aload_n C 0 dX10_pairs_24 rfl rfl ?_
    refine G.getR (k := 34) C k_X10 (sm_67 hE) rfl (by decide) tg_1465 dX10_pairs_25 ?_
    refine G.iload C 3 dX10_pairs_28 rfl ?_
    obtain ⟨hg_1, h⟩ := gd_ex h
    refine G.aI (j := ix x4) C (sm_101 hE) hg_1 rfl dX10_pairs_30 ?_
    obtain ⟨x5_2, ex5_2, h⟩ := ltv_ex h
    refine G.istore (L' := [(5, .int x5_2), (0, .ref (eA E 67)), (1, .long x1), (3, .int x3), (4, .int x4)]) C dX10_pairs_31 ex5_2 (by decide) rfl ?_
    refine G.lload_n C 2 dX10_pairs_33 rfl rfl ?_
    refine G.iload C 4 dX10_pairs_34 rfl ?_
    obtain ⟨v_4, hv_3, h⟩ := bd_ex h
    refine G.callS (rest := []) C (s_X10_is  hv_3) ⟨tg_1650, tg_103, ok_X10_is, (show 1 + 1 ≤ 2 + dd by omega), (show 8 + (3 + 11) + 64 * 1 ≤ 64 * (2 + dd) by omega)⟩ tg_1648 tg_1649 rfl (Nat.le_of_ble_eq_true rfl) dX10_pairs_36 ⟨Nat.le_refl 0, Nat.le_refl 0⟩ ?_
    refine G.if_eq (tgt := 132) C dX10_pairs_39 (by decide) (fun hc => ?_) (fun hc => ?_)
    · have h := it_t h hc
      obtain ⟨x4_5, ex4_5, h⟩ := ltv_ex h
      refine G.iinc (L' := [(4, .int x4_5), (5, .int x5_2), (0, .ref (eA E 67)), (1, .long x1), (3, .int x3)]) C 4 dX10_pairs_132 rfl (ex4_5.trans rfl) (by decide) rfl ?_
      refine G.goto (tgt := 17) C dX10_pairs_135 (by decide) ?_
      exact G.sub [2, 3, 4, 0] rfl (hk_17 _ _ _ _  h)
    · have h := it_f h hc
      refine G.aload_n C 1 dX10_pairs_42 rfl rfl ?_
      refine G.getR (k := 33) C k_X10 (sm_67 hE) rfl (by decide) tg_1464 dX10_pairs_43 ?_
      refine G.iload C 4 dX10_pairs_46 rfl ?_
      obtain ⟨hg_6, h⟩ := gd_ex h
      refine G.aI (j := ix x4) C (sm_100 hE) hg_6 rfl dX10_pairs_48 ?_
      refine G.iload_n C 3 dX10_pairs_49 rfl rfl ?_
      refine G.icmp_ne (tgt := 132) C dX10_pairs_50 (by decide) (fun hc => ?_) (fun hc => ?_)
      · have h := it_f h hc
        obtain ⟨x4_7, ex4_7, h⟩ := ltv_ex h
        refine G.iinc (L' := [(4, .int x4_7), (5, .int x5_2), (0, .ref (eA E 67)), (1, .long x1), (3, .int x3)]) C 4 dX10_pairs_132 rfl (ex4_7.trans rfl) (by decide) rfl ?_
        refine G.goto (tgt := 17) C dX10_pairs_135 (by decide) ?_
        exact G.sub [2, 3, 4, 0] rfl (hk_17 _ _ _ _  h)
      · have h := it_t h hc
        refine G.iload C 0 dX10_pairs_53 rfl ?_
        refine G.iconst (v := (-1 : Int32)) C dX10_pairs_55 (by decide) ?_
        refine G.icmp_eq (tgt := 132) C dX10_pairs_56 (by decide) (fun hc => ?_) (fun hc => ?_)
        · have h := it_t h hc
          obtain ⟨x4_8, ex4_8, h⟩ := ltv_ex h
          refine G.iinc (L' := [(4, .int x4_8), (5, .int x5_2), (0, .ref (eA E 67)), (1, .long x1), (3, .int x3)]) C 4 dX10_pairs_132 rfl (ex4_8.trans rfl) (by decide) rfl ?_
          refine G.goto (tgt := 17) C dX10_pairs_135 (by decide) ?_
          exact G.sub [2, 3, 4, 0] rfl (hk_17 _ _ _ _  h)
        · have h := it_f h hc
          refine G.aload_n C 1 dX10_pairs_59 rfl rfl ?_
          refine G.getI (k := 37) C k_X10 (sm_67 hE) rfl (by decide) tg_1468 dX10_pairs_60 ?_
          refine G.iload C 0 dX10_pairs_63 rfl ?_
          refine G.isr C dX10_pairs_65 ?_
          refine G.iconst (v := (1 : Int32)) C dX10_pairs_66 (by decide) ?_
          refine G.iand C dX10_pairs_67 ?_
          refine G.iconst (v := (1 : Int32)) C dX10_pairs_68 (by decide) ?_
          refine G.icmp_eq (tgt := 132) C dX10_pairs_69 (by decide) (fun hc => ?_) (fun hc => ?_)
          · have h := it_t h hc
            obtain ⟨x4_9, ex4_9, h⟩ := ltv_ex h
            refine G.iinc (L' := [(4, .int x4_9), (5, .int x5_2), (0, .ref (eA E 67)), (1, .long x1), (3, .int x3)]) C 4 dX10_pairs_132 rfl (ex4_9.trans rfl) (by decide) rfl ?_
            refine G.goto (tgt := 17) C dX10_pairs_135 (by decide) ?_
            exact G.sub [2, 3, 4, 0] rfl (hk_17 _ _ _ _  h)
          · have h := it_f h hc
            refine G.aload_n C 1 dX10_pairs_72 rfl rfl ?_
            refine G.getR (k := 36) C k_X10 (sm_67 hE) rfl (by decide) tg_1467 dX10_pairs_73 ?_
            refine G.iload C 0 dX10_pairs_76 rfl ?_
            obtain ⟨hg_10, h⟩ := gd_ex h
            refine G.aZ (j := ix x5_2) C (sm_103 hE) hg_10 rfl dX10_pairs_78 ?_
            refine G.if_eq (tgt := 85) C dX10_pairs_79 (by decide) (fun hc => ?_) (fun hc => ?_)
            · have h := it_t h hc
              refine G.aload_n C 1 dX10_pairs_85 rfl rfl ?_
              refine G.getR (k := 36) C k_X10 (sm_67 hE) rfl (by decide) tg_1467 dX10_pairs_86 ?_
              refine G.iload C 0 dX10_pairs_89 rfl ?_
              refine G.iconst (v := (1 : Int32)) C dX10_pairs_91 (by decide) ?_
              obtain ⟨hg_11, h⟩ := gd_ex h
              obtain ⟨M_12, eM_12, h⟩ := ltv_ex h
              refine G.sZ (j := (ix x5_2)) C (sm_103 hE) hg_11 rfl dX10_pairs_92 eM_12 ?_
              refine G.aload_n C 1 dX10_pairs_93 rfl rfl ?_
              refine G.getR (k := 35) C k_X10 (sm_67 hE) rfl (by decide) tg_1466 dX10_pairs_94 ?_
              refine G.iload C 0 dX10_pairs_97 rfl ?_
              obtain ⟨hg_13, h⟩ := gd_ex h
              refine G.aI (j := ix x5_2) C (sm_102 hE) hg_13 rfl dX10_pairs_99 ?_
              refine G.iconst (v := (-1 : Int32)) C dX10_pairs_100 (by decide) ?_
              refine G.icmp_eq (tgt := 122) C dX10_pairs_101 (by decide) (fun hc => ?_) (fun hc => ?_)
              · have h := it_t h hc
                refine G.aload_n C 1 dX10_pairs_122 rfl rfl ?_
                refine G.getR (k := 35) C k_X10 (sm_67 hE) rfl (by decide) tg_1466 dX10_pairs_123 ?_
                refine G.iload C 0 dX10_pairs_126 rfl ?_
                refine G.iload_n C 3 dX10_pairs_128 rfl rfl ?_
                obtain ⟨hg_14, h⟩ := gd_ex h
                obtain ⟨M_15, eM_15, h⟩ := ltv_ex h
                refine G.sI (j := (ix x5_2)) C (sm_102 hE) hg_14 rfl dX10_pairs_129 eM_15 ?_
                refine G.iconst (v := (1 : Int32)) C dX10_pairs_130 (by decide) ?_
                cases h
                exact G.zret C hr rfl dX10_pairs_131
              · have h := it_f h hc
                refine G.aload_n C 1 dX10_pairs_104 rfl rfl ?_
                refine G.lload_n C 2 dX10_pairs_105 rfl rfl ?_
                refine G.aload_n C 1 dX10_pairs_106 rfl rfl ?_
                refine G.getR (k := 35) C k_X10 (sm_67 hE) rfl (by decide) tg_1466 dX10_pairs_107 ?_
                refine G.iload C 0 dX10_pairs_110 rfl ?_
                obtain ⟨hg_16, h⟩ := gd_ex h
                refine G.aI (j := ix x5_2) C (sm_102 hE) hg_16 rfl dX10_pairs_112 ?_
                obtain ⟨v_19, M_18, hv_17, h⟩ := bd2_ex h
                refine G.callV (rest := []) C (hrc _ _ _ _ _  hv_17) ⟨tg_1773, tg_103, ok_X10_pairs, (show 1 + dd + 1 ≤ 2 + dd by omega), (show 8 + (6 + 11) + 64 * (1 + dd) ≤ 64 * (2 + dd) by omega)⟩ tg_1770 tg_1772 tg_69 (sm_67 hE) rfl rfl (Nat.le_of_ble_eq_true rfl) dX10_pairs_113 ⟨Nat.le_refl 0, Nat.le_refl 0⟩ ?_
                refine G.if_ne (tgt := 122) C dX10_pairs_116 (by decide) (fun hc => ?_) (fun hc => ?_)
                · have h := it_f h hc
                  refine G.aload_n C 1 dX10_pairs_122 rfl rfl ?_
                  refine G.getR (k := 35) C k_X10 (sm_67 hE) rfl (by decide) tg_1466 dX10_pairs_123 ?_
                  refine G.iload C 0 dX10_pairs_126 rfl ?_
                  refine G.iload_n C 3 dX10_pairs_128 rfl rfl ?_
                  obtain ⟨hg_20, h⟩ := gd_ex h
                  obtain ⟨M_21, eM_21, h⟩ := ltv_ex h
                  refine G.sI (j := (ix x5_2)) C (sm_102 hE) hg_20 rfl dX10_pairs_129 eM_21 ?_
                  refine G.iconst (v := (1 : Int32)) C dX10_pairs_130 (by decide) ?_
                  cases h
                  exact G.zret C hr rfl dX10_pairs_131
                · have h := it_t h hc
                  refine G.goto (tgt := 132) C dX10_pairs_119 (by decide) ?_
                  obtain ⟨x4_22, ex4_22, h⟩ := ltv_ex h
                  refine G.iinc (L' := [(4, .int x4_22), (5, .int x5_2), (0, .ref (eA E 67)), (1, .long x1), (3, .int x3)]) C 4 dX10_pairs_132 rfl (ex4_22.trans rfl) (by decide) rfl ?_
                  refine G.goto (tgt := 17) C dX10_pairs_135 (by decide) ?_
                  exact G.sub [2, 3, 4, 0] rfl (hk_17 _ _ _ _  h)
            · have h := it_f h hc
              refine G.goto (tgt := 132) C dX10_pairs_82 (by decide) ?_
              obtain ⟨x4_23, ex4_23, h⟩ := ltv_ex h
              refine G.iinc (L' := [(4, .int x4_23), (5, .int x5_2), (0, .ref (eA E 67)), (1, .long x1), (3, .int x3)]) C 4 dX10_pairs_132 rfl (ex4_23.trans rfl) (by decide) rfl ?_
              refine G.goto (tgt := 17) C dX10_pairs_135 (by decide) ?_
              exact G.sub [2, 3, 4, 0] rfl (hk_17 _ _ _ _  h)
def b_X10_pairs_67_17 (rc : Int64 → Int32 → Mm → Option (Int32 × Mm)) : Nat → Int64 → Int32 → Int32 → Mm → Option (Int32 × Mm)
  | 0, _, _, _, _ => none
  | n + 1, x1, x3, x4, M => bb_X10_pairs_67_17 rc (b_X10_pairs_67_17 rc n) x1 x3 x4 M
set_option maxHeartbeats 4000000 in
theorem g_X10_pairs_67_17 {dd : Nat}  {rc : Int64 → Int32 → Mm → Option (Int32 × Mm)} {n : Nat} {x1 : Int64} {x3 : Int32} {x4 : Int32} {M : Mm} {v : Int32} {M' : Mm} (hE : Has shM (eH E)) (C : Cx RX10 cX10_pairs 6 p (rmD (2 + dd)) s m args meth c E) (hr : meth.sig.returnType = (some .boolean)) (hrc : ∀ (x1 : Int64) (x3 : Int32) (M : Mm) (v : Int32) (M' : Mm), rc x1 x3 M = some (v, M') → MetA l yX10_pairs cX10_pairs 6 (some .boolean) (1 + dd) E [.ref (eA E 67), .long x1, .int x3] M (some (.int v)) M') (h : b_X10_pairs_67_17 rc n x1 x3 x4 M = some (v, M')) : G p l e (rmD (2 + dd)) s m args below meth c E 6 0 0 (QR below args s E 0 0 (some (.int v)) M') 17 [(0, .ref (eA E 67)), (1, .long x1), (3, .int x3), (4, .int x4)] [] M := by
  induction n generalizing x1 x3 x4 M with
  | zero => cases h
  | succ n ih => exact gb_X10_pairs_67_17 hE C hr hrc (fun _ _ _ _ => ih)  h
def bb_X10_pairs_67_0 (rc : Int64 → Int32 → Mm → Option (Int32 × Mm)) (x1 : Int64) (x3 : Int32) (M : Mm) : Option (Int32 × Mm) := if ((shrI (M.1 67 37) x3) &&& (1 : Int32)) = (1 : Int32) then (some ((0 : Int32), M)) else (b_X10_pairs_67_17 rc FU x1 x3 (0 : Int32) M)
set_option maxHeartbeats 4000000 in
set_option maxRecDepth 100000 in
theorem gb_X10_pairs_67_0 {dd : Nat}  {rc : Int64 → Int32 → Mm → Option (Int32 × Mm)} {x1 : Int64} {x3 : Int32} {M : Mm} {v : Int32} {M' : Mm} (hE : Has shM (eH E)) (C : Cx RX10 cX10_pairs 6 p (rmD (2 + dd)) s m args meth c E) (hr : meth.sig.returnType = (some .boolean)) (hrc : ∀ (x1 : Int64) (x3 : Int32) (M : Mm) (v : Int32) (M' : Mm), rc x1 x3 M = some (v, M') → MetA l yX10_pairs cX10_pairs 6 (some .boolean) (1 + dd) E [.ref (eA E 67), .long x1, .int x3] M (some (.int v)) M') (h : bb_X10_pairs_67_0 rc x1 x3 M = some (v, M')) : G p l e (rmD (2 + dd)) s m args below meth c E 6 0 0 (QR below args s E 0 0 (some (.int v)) M') 0 [(0, .ref (eA E 67)), (1, .long x1), (3, .int x3)] [] M := by
  unfold bb_X10_pairs_67_0 at h
  refine G.aload_n C 0 dX10_pairs_0 rfl rfl ?_
  refine G.getI (k := 37) C k_X10 (sm_67 hE) rfl (by decide) tg_1468 dX10_pairs_1 ?_
  refine G.iload_n C 2 dX10_pairs_4 rfl rfl ?_
  refine G.isr C dX10_pairs_5 ?_
  refine G.iconst (v := (1 : Int32)) C dX10_pairs_6 (by decide) ?_
  refine G.iand C dX10_pairs_7 ?_
  refine G.iconst (v := (1 : Int32)) C dX10_pairs_8 (by decide) ?_
  refine G.icmp_ne (tgt := 14) C dX10_pairs_9 (by decide) (fun hc => ?_) (fun hc => ?_)
  · have h := it_f h hc
    refine G.iconst (v := (0 : Int32)) C dX10_pairs_14 (by decide) ?_
    refine G.istore (L' := [(4, .int (0 : Int32)), (0, .ref (eA E 67)), (1, .long x1), (3, .int x3)]) C dX10_pairs_15 rfl (by decide) rfl ?_
    exact G.sub [1, 2, 3, 0] rfl (g_X10_pairs_67_17 hE C hr hrc  h)
  · have h := it_t h hc
    refine G.iconst (v := (0 : Int32)) C dX10_pairs_12 (by decide) ?_
    cases h
    exact G.zret C hr rfl dX10_pairs_13
def fr_X10_pairs_67 : Nat → Int64 → Int32 → Mm → Option (Int32 × Mm)
  | 0, _, _, _ => none
  | n + 1, x1, x3, M => (bb_X10_pairs_67_0 (fr_X10_pairs_67 n) x1 x3 M)
theorem sr_X10_pairs_67 {l : Launch} {E : Ev} (hE : Has shM (eH E)) (n : Nat) : ∀ (x1 : Int64) (x3 : Int32) (M : Mm) (v : Int32) (M' : Mm), fr_X10_pairs_67 n x1 x3 M = some (v, M') → MetA l yX10_pairs cX10_pairs 6 (some .boolean) (1 + n) E [.ref (eA E 67), .long x1, .int x3] M (some (.int v)) M' := by
  induction n with
  | zero => intros; rename_i h; cases h
  | succ n ih =>
    intro x1 x3 M v M'  h
    refine MetA.of (by decide +kernel) (Nat.le_of_ble_eq_true rfl) ?_
    intro p e s m below meth c C hr hnm
    rw [show 1 + (n + 1) = 2 + n by omega] at C ⊢
    exact G.sub [0, 1, 2] rfl (gb_X10_pairs_67_0 (dd := n) hE C hr ih  h)
def f_X10_pairs_67 (x1 : Int64) (x3 : Int32) (M : Mm) : Option (Int32 × Mm) := fr_X10_pairs_67 40 x1 x3 M
theorem s_X10_pairs_67 {l : Launch} {E : Ev} {x1 : Int64} {x3 : Int32} {M : Mm} {v : Int32} {M' : Mm} (hE : Has shM (eH E)) (h : f_X10_pairs_67 x1 x3 M = some (v, M')) : MetA l yX10_pairs cX10_pairs 6 (some .boolean) 41 E [.ref (eA E 67), .long x1, .int x3] M (some (.int v)) M' := sr_X10_pairs_67 hE 40 _ _ _ _ _  h
def bb_X10_fewestLines_67_92 (k_9 : Int64 → Int32 → Int32 → Int32 → Int32 → Int32 → Mm → Option (Int32 × Mm)) (x1 : Int64) (x3 : Int32) (x4 : Int32) (x5 : Int32) (x6 : Int32) (x7 : Int32) (x8 : Int32) (x9 : Int32) (M : Mm) : Option (Int32 × Mm) := if x9 = 0 then (ltv (x7 + (1 : Int32)) fun x7_22 => k_9 x1 x3 x4 x5 x6 x7_22 M) else (if x8 = 0 then (gd (inb x7 64) (ltv (x6 ||| (shI (1 : Int32) (M.1 101 (ix x7)))) fun x6_25 => ltv (x7 + (1 : Int32)) fun x7_26 => k_9 x1 x3 x4 x5 x6_25 x7_26 M)) else (ltv (x7 + (1 : Int32)) fun x7_23 => k_9 x1 x3 x4 x5 x6 x7_23 M))
set_option maxHeartbeats 4000000 in
set_option maxRecDepth 100000 in
theorem gb_X10_fewestLines_67_92  {k_9 : Int64 → Int32 → Int32 → Int32 → Int32 → Int32 → Mm → Option (Int32 × Mm)} {x1 : Int64} {x3 : Int32} {x4 : Int32} {x5 : Int32} {x6 : Int32} {x7 : Int32} {x8 : Int32} {x9 : Int32} {M : Mm} {v : Int32} {M' : Mm} (hE : Has shM (eH E)) (C : Cx RX10 cX10_fewestLines 10 p (rmD 42) s m args meth c E) (hr : meth.sig.returnType = (some .int)) (hk_9 : ∀ (x1 : Int64) (x3 : Int32) (x4 : Int32) (x5 : Int32) (x6 : Int32) (x7 : Int32) (M : Mm), k_9 x1 x3 x4 x5 x6 x7 M = some (v, M') → G p l e (rmD 42) s m args below meth c E 10 0 0 (QR below args s E 0 0 (some (.int v)) M') 9 [(0, .ref (eA E 67)), (1, .long x1), (3, .int x3), (4, .int x4), (5, .int x5), (6, .int x6), (7, .int x7)] [] M) (h : bb_X10_fewestLines_67_92 k_9 x1 x3 x4 x5 x6 x7 x8 x9 M = some (v, M')) : G p l e (rmD 42) s m args below meth c E 10 0 0 (QR below args s E 0 0 (some (.int v)) M') 92 [(0, .ref (eA E 67)), (1, .long x1), (3, .int x3), (4, .int x4), (5, .int x5), (6, .int x6), (7, .int x7), (8, .int x8), (9, .int x9)] [] M := by
  unfold bb_X10_fewestLines_67_92 at h
  refine G.iload C 8 dX10_fewestLines_92 rfl ?_
  refine G.if_eq (tgt := 116) C dX10_fewestLines_94 (by decide) (fun hc => ?_) (fun hc => ?_)
  · have h := it_t h hc
    obtain ⟨x7_22, ex7_22, h⟩ := ltv_ex h
    refine G.iinc (L' := [(7, .int x7_22), (0, .ref (eA E 67)), (1, .long x1), (3, .int x3), (4, .int x4), (5, .int x5), (6, .int x6), (8, .int x8), (9, .int x9)]) C 6 dX10_fewestLines_116 rfl (ex7_22.trans rfl) (by decide) rfl ?_
    refine G.goto (tgt := 9) C dX10_fewestLines_119 (by decide) ?_
    exact G.sub [1, 2, 3, 4, 5, 6, 0] rfl (hk_9 _ _ _ _ _ _ _  h)
  · have h := it_f h hc
    refine G.iload C 7 dX10_fewestLines_97 rfl ?_
    refine G.if_ne (tgt := 116) C dX10_fewestLines_99 (by decide) (fun hc => ?_) (fun hc => ?_)
    · have h := it_f h hc
      obtain ⟨x7_23, ex7_23, h⟩ := ltv_ex h
      refine G.iinc (L' := [(7, .int x7_23), (0, .ref (eA E 67)), (1, .long x1), (3, .int x3), (4, .int x4), (5, .int x5), (6, .int x6), (8, .int x8), (9, .int x9)]) C 6 dX10_fewestLines_116 rfl (ex7_23.trans rfl) (by decide) rfl ?_
      refine G.goto (tgt := 9) C dX10_fewestLines_119 (by decide) ?_
      exact G.sub [1, 2, 3, 4, 5, 6, 0] rfl (hk_9 _ _ _ _ _ _ _  h)
    · have h := it_t h hc
      refine G.iload C 5 dX10_fewestLines_102 rfl ?_
      refine G.iconst (v := (1 : Int32)) C dX10_fewestLines_104 (by decide) ?_
      refine G.aload_n C 0 dX10_fewestLines_105 rfl rfl ?_
      refine G.getR (k := 34) C k_X10 (sm_67 hE) rfl (by decide) tg_1465 dX10_fewestLines_106 ?_
      refine G.iload C 6 dX10_fewestLines_109 rfl ?_
      obtain ⟨hg_24, h⟩ := gd_ex h
      refine G.aI (j := ix x7) C (sm_101 hE) hg_24 rfl dX10_fewestLines_111 ?_
      refine G.isl C dX10_fewestLines_112 ?_
      refine G.ior C dX10_fewestLines_113 ?_
      obtain ⟨x6_25, ex6_25, h⟩ := ltv_ex h
      refine G.istore (L' := [(6, .int x6_25), (0, .ref (eA E 67)), (1, .long x1), (3, .int x3), (4, .int x4), (5, .int x5), (7, .int x7), (8, .int x8), (9, .int x9)]) C dX10_fewestLines_114 ex6_25 (by decide) rfl ?_
      obtain ⟨x7_26, ex7_26, h⟩ := ltv_ex h
      refine G.iinc (L' := [(7, .int x7_26), (6, .int x6_25), (0, .ref (eA E 67)), (1, .long x1), (3, .int x3), (4, .int x4), (5, .int x5), (8, .int x8), (9, .int x9)]) C 6 dX10_fewestLines_116 rfl (ex7_26.trans rfl) (by decide) rfl ?_
      refine G.goto (tgt := 9) C dX10_fewestLines_119 (by decide) ?_
      exact G.sub [2, 3, 4, 5, 6, 1, 0] rfl (hk_9 _ _ _ _ _ _ _  h)
def bb_X10_fewestLines_67_68 (k_9 : Int64 → Int32 → Int32 → Int32 → Int32 → Int32 → Mm → Option (Int32 × Mm)) (x1 : Int64) (x3 : Int32) (x4 : Int32) (x5 : Int32) (x6 : Int32) (x7 : Int32) (x8 : Int32) (x9 : Int32) (M : Mm) : Option (Int32 × Mm) := if x8 = 0 then (bb_X10_fewestLines_67_92 k_9 x1 x3 x4 x5 x6 x7 x8 x9 M) else (if x9 = 0 then (gd (inb x7 64) (ltv (x6 ||| (shI (1 : Int32) (M.1 100 (ix x7)))) fun x6_18 => bb_X10_fewestLines_67_92 k_9 x1 x3 x4 x5 x6_18 x7 x8 x9 M)) else (bb_X10_fewestLines_67_92 k_9 x1 x3 x4 x5 x6 x7 x8 x9 M))
set_option maxHeartbeats 4000000 in
set_option maxRecDepth 100000 in
theorem gb_X10_fewestLines_67_68  {k_9 : Int64 → Int32 → Int32 → Int32 → Int32 → Int32 → Mm → Option (Int32 × Mm)} {x1 : Int64} {x3 : Int32} {x4 : Int32} {x5 : Int32} {x6 : Int32} {x7 : Int32} {x8 : Int32} {x9 : Int32} {M : Mm} {v : Int32} {M' : Mm} (hE : Has shM (eH E)) (C : Cx RX10 cX10_fewestLines 10 p (rmD 42) s m args meth c E) (hr : meth.sig.returnType = (some .int)) (hk_9 : ∀ (x1 : Int64) (x3 : Int32) (x4 : Int32) (x5 : Int32) (x6 : Int32) (x7 : Int32) (M : Mm), k_9 x1 x3 x4 x5 x6 x7 M = some (v, M') → G p l e (rmD 42) s m args below meth c E 10 0 0 (QR below args s E 0 0 (some (.int v)) M') 9 [(0, .ref (eA E 67)), (1, .long x1), (3, .int x3), (4, .int x4), (5, .int x5), (6, .int x6), (7, .int x7)] [] M) (h : bb_X10_fewestLines_67_68 k_9 x1 x3 x4 x5 x6 x7 x8 x9 M = some (v, M')) : G p l e (rmD 42) s m args below meth c E 10 0 0 (QR below args s E 0 0 (some (.int v)) M') 68 [(0, .ref (eA E 67)), (1, .long x1), (3, .int x3), (4, .int x4), (5, .int x5), (6, .int x6), (7, .int x7), (8, .int x8), (9, .int x9)] [] M := by
  unfold bb_X10_fewestLines_67_68 at h
  refine G.iload C 7 dX10_fewestLines_68 rfl ?_
  refine G.if_eq (tgt := 92) C dX10_fewestLines_70 (by decide) (fun hc => ?_) (fun hc => ?_)
  · have h := it_t h hc
    exact G.sub [0, 1, 2, 3, 4, 5, 6, 7, 8] rfl (gb_X10_fewestLines_67_92 hE C hr hk_9  h)
  · have h := it_f h hc
    refine G.iload C 8 dX10_fewestLines_73 rfl ?_
    refine G.if_ne (tgt := 92) C dX10_fewestLines_75 (by decide) (fun hc => ?_) (fun hc => ?_)
    · have h := it_f h hc
      exact G.sub [0, 1, 2, 3, 4, 5, 6, 7, 8] rfl (gb_X10_fewestLines_67_92 hE C hr hk_9  h)
    · have h := it_t h hc
      refine G.iload C 5 dX10_fewestLines_78 rfl ?_
      refine G.iconst (v := (1 : Int32)) C dX10_fewestLines_80 (by decide) ?_
      refine G.aload_n C 0 dX10_fewestLines_81 rfl rfl ?_
      refine G.getR (k := 33) C k_X10 (sm_67 hE) rfl (by decide) tg_1464 dX10_fewestLines_82 ?_
      refine G.iload C 6 dX10_fewestLines_85 rfl ?_
      obtain ⟨hg_17, h⟩ := gd_ex h
      refine G.aI (j := ix x7) C (sm_100 hE) hg_17 rfl dX10_fewestLines_87 ?_
      refine G.isl C dX10_fewestLines_88 ?_
      refine G.ior C dX10_fewestLines_89 ?_
      obtain ⟨x6_18, ex6_18, h⟩ := ltv_ex h
      refine G.istore (L' := [(6, .int x6_18), (0, .ref (eA E 67)), (1, .long x1), (3, .int x3), (4, .int x4), (5, .int x5), (7, .int x7), (8, .int x8), (9, .int x9)]) C dX10_fewestLines_90 ex6_18 (by decide) rfl ?_
      exact G.sub [1, 2, 3, 4, 5, 0, 6, 7, 8] rfl (gb_X10_fewestLines_67_92 hE C hr hk_9  h)
def bb_X10_fewestLines_67_211 (k_201 : Int64 → Int32 → Int32 → Mm → Option (Int32 × Mm)) (k_211 : Int64 → Int32 → Int32 → Int32 → Mm → Option (Int32 × Mm)) (x1 : Int64) (x5 : Int32) (x7 : Int32) (x8 : Int32) (M : Mm) : Option (Int32 × Mm) := if (32 : Int32) ≤ x8 then (bd2 (f_X10_pairs_67 x1 x7 M) fun v_29 M_28 => if v_29 = 0 then (ltv (x5 + (0 : Int32)) fun x5_30 => ltv (x7 + (1 : Int32)) fun x7_31 => k_201 x1 x5_30 x7_31 M_28) else (ltv (x5 + (1 : Int32)) fun x5_32 => ltv (x7 + (1 : Int32)) fun x7_33 => k_201 x1 x5_32 x7_33 M_28)) else (gd (inb x8 32) (ltv (wI M 103 (ix x8) (vp_nar .boolean (0 : Int32))) fun M_35 => ltv (x8 + (1 : Int32)) fun x8_36 => k_211 x1 x5 x7 x8_36 M_35))
set_option maxHeartbeats 4000000 in
set_option maxRecDepth 100000 in
theorem gb_X10_fewestLines_67_211  {k_201 : Int64 → Int32 → Int32 → Mm → Option (Int32 × Mm)} {k_211 : Int64 → Int32 → Int32 → Int32 → Mm → Option (Int32 × Mm)} {x1 : Int64} {x5 : Int32} {x7 : Int32} {x8 : Int32} {M : Mm} {v : Int32} {M' : Mm} (hE : Has shM (eH E)) (C : Cx RX10 cX10_fewestLines 10 p (rmD 42) s m args meth c E) (hr : meth.sig.returnType = (some .int)) (hk_201 : ∀ (x1 : Int64) (x5 : Int32) (x7 : Int32) (M : Mm), k_201 x1 x5 x7 M = some (v, M') → G p l e (rmD 42) s m args below meth c E 10 0 0 (QR below args s E 0 0 (some (.int v)) M') 201 [(0, .ref (eA E 67)), (1, .long x1), (5, .int x5), (7, .int x7)] [] M) (hk_211 : ∀ (x1 : Int64) (x5 : Int32) (x7 : Int32) (x8 : Int32) (M : Mm), k_211 x1 x5 x7 x8 M = some (v, M') → G p l e (rmD 42) s m args below meth c E 10 0 0 (QR below args s E 0 0 (some (.int v)) M') 211 [(0, .ref (eA E 67)), (1, .long x1), (5, .int x5), (7, .int x7), (8, .int x8)] [] M) (h : bb_X10_fewestLines_67_211 k_201 k_211 x1 x5 x7 x8 M = some (v, M')) : G p l e (rmD 42) s m args below meth c E 10 0 0 (QR below args s E 0 0 (some (.int v)) M') 211 [(0, .ref (eA E 67)), (1, .long x1), (5, .int x5), (7, .int x7), (8, .int x8)] [] M := by
  unfold bb_X10_fewestLines_67_211 at h
  refine G.iload C 4 dX10_fewestLines_211 rfl ?_
  refine G.bipush (v := (32 : Int32)) C dX10_fewestLines_213 (by decide) ?_
  refine G.icmp_ge (tgt := 232) C dX10_fewestLines_215 (by decide) (fun hc => ?_) (fun hc => ?_)
  · have h := it_t h hc
    refine G.iload C 2 dX10_fewestLines_232 rfl ?_
    refine G.aload_n C 0 dX10_fewestLines_234 rfl rfl ?_
    refine G.lload_n C 1 dX10_fewestLines_235 rfl rfl ?_
    refine G.iload C 3 dX10_fewestLines_236 rfl ?_
    obtain ⟨v_29, M_28, hv_27, h⟩ := bd2_ex h
    refine G.callV (rest := [.int x5]) C (s_X10_pairs_67 hE  hv_27) ⟨tg_1773, tg_103, ok_X10_pairs, Nat.le_of_ble_eq_true rfl, Nat.le_of_ble_eq_true rfl⟩ tg_1770 tg_1772 tg_69 (sm_67 hE) rfl rfl (Nat.le_of_ble_eq_true rfl) dX10_fewestLines_238 ⟨Nat.le_refl 0, Nat.le_refl 0⟩ ?_
    refine G.if_eq (tgt := 248) C dX10_fewestLines_241 (by decide) (fun hc => ?_) (fun hc => ?_)
    · have h := it_t h hc
      refine G.iconst (v := (0 : Int32)) C dX10_fewestLines_248 (by decide) ?_
      refine G.iadd C dX10_fewestLines_249 ?_
      obtain ⟨x5_30, ex5_30, h⟩ := ltv_ex h
      refine G.istore (L' := [(5, .int x5_30), (0, .ref (eA E 67)), (1, .long x1), (7, .int x7), (8, .int x8)]) C dX10_fewestLines_250 ex5_30 (by decide) rfl ?_
      obtain ⟨x7_31, ex7_31, h⟩ := ltv_ex h
      refine G.iinc (L' := [(7, .int x7_31), (5, .int x5_30), (0, .ref (eA E 67)), (1, .long x1), (8, .int x8)]) C 3 dX10_fewestLines_252 rfl (ex7_31.trans rfl) (by decide) rfl ?_
      refine G.goto (tgt := 201) C dX10_fewestLines_255 (by decide) ?_
      exact G.sub [2, 3, 1, 0] rfl (hk_201 _ _ _ _  h)
    · have h := it_f h hc
      refine G.iconst (v := (1 : Int32)) C dX10_fewestLines_244 (by decide) ?_
      refine G.goto (tgt := 249) C dX10_fewestLines_245 (by decide) ?_
      refine G.iadd C dX10_fewestLines_249 ?_
      obtain ⟨x5_32, ex5_32, h⟩ := ltv_ex h
      refine G.istore (L' := [(5, .int x5_32), (0, .ref (eA E 67)), (1, .long x1), (7, .int x7), (8, .int x8)]) C dX10_fewestLines_250 ex5_32 (by decide) rfl ?_
      obtain ⟨x7_33, ex7_33, h⟩ := ltv_ex h
      refine G.iinc (L' := [(7, .int x7_33), (5, .int x5_32), (0, .ref (eA E 67)), (1, .long x1), (8, .int x8)]) C 3 dX10_fewestLines_252 rfl (ex7_33.trans rfl) (by decide) rfl ?_
      refine G.goto (tgt := 201) C dX10_fewestLines_255 (by decide) ?_
      exact G.sub [2, 3, 1, 0] rfl (hk_201 _ _ _ _  h)
  · have h := it_f h hc
    refine G.aload_n C 0 dX10_fewestLines_218 rfl rfl ?_
    refine G.getR (k := 36) C k_X10 (sm_67 hE) rfl (by decide) tg_1467 dX10_fewestLines_219 ?_
    refine G.iload C 4 dX10_fewestLines_222 rfl ?_
    refine G.iconst (v := (0 : Int32)) C dX10_fewestLines_224 (by decide) ?_
    obtain ⟨hg_34, h⟩ := gd_ex h
    obtain ⟨M_35, eM_35, h⟩ := ltv_ex h
    refine G.sZ (j := (ix x8)) C (sm_103 hE) hg_34 rfl dX10_fewestLines_225 eM_35 ?_
    obtain ⟨x8_36, ex8_36, h⟩ := ltv_ex h
    refine G.iinc (L' := [(8, .int x8_36), (0, .ref (eA E 67)), (1, .long x1), (5, .int x5), (7, .int x7)]) C 4 dX10_fewestLines_226 rfl (ex8_36.trans rfl) (by decide) rfl ?_
    refine G.goto (tgt := 211) C dX10_fewestLines_229 (by decide) ?_
    exact G.sub [1, 2, 3, 4, 0] rfl (hk_211 _ _ _ _ _  h)
def b_X10_fewestLines_67_211 (k_201 : Int64 → Int32 → Int32 → Mm → Option (Int32 × Mm)) : Nat → Int64 → Int32 → Int32 → Int32 → Mm → Option (Int32 × Mm)
  | 0, _, _, _, _, _ => none
  | n + 1, x1, x5, x7, x8, M => bb_X10_fewestLines_67_211 k_201 (b_X10_fewestLines_67_211 k_201 n) x1 x5 x7 x8 M
set_option maxHeartbeats 4000000 in
theorem g_X10_fewestLines_67_211  {k_201 : Int64 → Int32 → Int32 → Mm → Option (Int32 × Mm)} {n : Nat} {x1 : Int64} {x5 : Int32} {x7 : Int32} {x8 : Int32} {M : Mm} {v : Int32} {M' : Mm} (hE : Has shM (eH E)) (C : Cx RX10 cX10_fewestLines 10 p (rmD 42) s m args meth c E) (hr : meth.sig.returnType = (some .int)) (hk_201 : ∀ (x1 : Int64) (x5 : Int32) (x7 : Int32) (M : Mm), k_201 x1 x5 x7 M = some (v, M') → G p l e (rmD 42) s m args below meth c E 10 0 0 (QR below args s E 0 0 (some (.int v)) M') 201 [(0, .ref (eA E 67)), (1, .long x1), (5, .int x5), (7, .int x7)] [] M) (h : b_X10_fewestLines_67_211 k_201 n x1 x5 x7 x8 M = some (v, M')) : G p l e (rmD 42) s m args below meth c E 10 0 0 (QR below args s E 0 0 (some (.int v)) M') 211 [(0, .ref (eA E 67)), (1, .long x1), (5, .int x5), (7, .int x7), (8, .int x8)] [] M := by
  induction n generalizing x1 x5 x7 x8 M with
  | zero => cases h
  | succ n ih => exact gb_X10_fewestLines_67_211 hE C hr hk_201 (fun _ _ _ _ _ => ih)  h
def bb_X10_fewestLines_67_201 (k_201 : Int64 → Int32 → Int32 → Mm → Option (Int32 × Mm)) (x1 : Int64) (x5 : Int32) (x7 : Int32) (M : Mm) : Option (Int32 × Mm) := if (16 : Int32) ≤ x7 then (some (x5, M)) else (b_X10_fewestLines_67_211 k_201 FU x1 x5 x7 (0 : Int32) M)
set_option maxHeartbeats 4000000 in
set_option maxRecDepth 100000 in
theorem gb_X10_fewestLines_67_201  {k_201 : Int64 → Int32 → Int32 → Mm → Option (Int32 × Mm)} {x1 : Int64} {x5 : Int32} {x7 : Int32} {M : Mm} {v : Int32} {M' : Mm} (hE : Has shM (eH E)) (C : Cx RX10 cX10_fewestLines 10 p (rmD 42) s m args meth c E) (hr : meth.sig.returnType = (some .int)) (hk_201 : ∀ (x1 : Int64) (x5 : Int32) (x7 : Int32) (M : Mm), k_201 x1 x5 x7 M = some (v, M') → G p l e (rmD 42) s m args below meth c E 10 0 0 (QR below args s E 0 0 (some (.int v)) M') 201 [(0, .ref (eA E 67)), (1, .long x1), (5, .int x5), (7, .int x7)] [] M) (h : bb_X10_fewestLines_67_201 k_201 x1 x5 x7 M = some (v, M')) : G p l e (rmD 42) s m args below meth c E 10 0 0 (QR below args s E 0 0 (some (.int v)) M') 201 [(0, .ref (eA E 67)), (1, .long x1), (5, .int x5), (7, .int x7)] [] M := by
  unfold bb_X10_fewestLines_67_201 at h
  refine G.iload C 3 dX10_fewestLines_201 rfl ?_
  refine G.bipush (v := (16 : Int32)) C dX10_fewestLines_203 (by decide) ?_
  refine G.icmp_ge (tgt := 258) C dX10_fewestLines_205 (by decide) (fun hc => ?_) (fun hc => ?_)
  · have h := it_t h hc
    refine G.iload C 2 dX10_fewestLines_258 rfl ?_
    cases h
    exact G.iret C hr dX10_fewestLines_260
  · have h := it_f h hc
    refine G.iconst (v := (0 : Int32)) C dX10_fewestLines_208 (by decide) ?_
    refine G.istore (L' := [(8, .int (0 : Int32)), (0, .ref (eA E 67)), (1, .long x1), (5, .int x5), (7, .int x7)]) C dX10_fewestLines_209 rfl (by decide) rfl ?_
    exact G.sub [1, 2, 3, 4, 0] rfl (g_X10_fewestLines_67_211 hE C hr hk_201  h)
def b_X10_fewestLines_67_201 : Nat → Int64 → Int32 → Int32 → Mm → Option (Int32 × Mm)
  | 0, _, _, _, _ => none
  | n + 1, x1, x5, x7, M => bb_X10_fewestLines_67_201 (b_X10_fewestLines_67_201 n) x1 x5 x7 M
set_option maxHeartbeats 4000000 in
theorem g_X10_fewestLines_67_201  {n : Nat} {x1 : Int64} {x5 : Int32} {x7 : Int32} {M : Mm} {v : Int32} {M' : Mm} (hE : Has shM (eH E)) (C : Cx RX10 cX10_fewestLines 10 p (rmD 42) s m args meth c E) (hr : meth.sig.returnType = (some .int)) (h : b_X10_fewestLines_67_201 n x1 x5 x7 M = some (v, M')) : G p l e (rmD 42) s m args below meth c E 10 0 0 (QR below args s E 0 0 (some (.int v)) M') 201 [(0, .ref (eA E 67)), (1, .long x1), (5, .int x5), (7, .int x7)] [] M := by
  induction n generalizing x1 x5 x7 M with
  | zero => cases h
  | succ n ih => exact gb_X10_fewestLines_67_201 hE C hr (fun _ _ _ _ => ih)  h
def bb_X10_fewestLines_67_177 (k_177 : Int64 → Int32 → Int32 → Mm → Option (Int32 × Mm)) (x1 : Int64) (x5 : Int32) (x7 : Int32) (M : Mm) : Option (Int32 × Mm) := if (32 : Int32) ≤ x7 then (b_X10_fewestLines_67_201 FU x1 x5 (0 : Int32) M) else (gd (inb x7 32) (ltv (wI M 102 (ix x7) (-1 : Int32)) fun M_20 => ltv (x7 + (1 : Int32)) fun x7_21 => k_177 x1 x5 x7_21 M_20))
set_option maxHeartbeats 4000000 in
set_option maxRecDepth 100000 in
theorem gb_X10_fewestLines_67_177  {k_177 : Int64 → Int32 → Int32 → Mm → Option (Int32 × Mm)} {x1 : Int64} {x5 : Int32} {x7 : Int32} {M : Mm} {v : Int32} {M' : Mm} (hE : Has shM (eH E)) (C : Cx RX10 cX10_fewestLines 10 p (rmD 42) s m args meth c E) (hr : meth.sig.returnType = (some .int)) (hk_177 : ∀ (x1 : Int64) (x5 : Int32) (x7 : Int32) (M : Mm), k_177 x1 x5 x7 M = some (v, M') → G p l e (rmD 42) s m args below meth c E 10 0 0 (QR below args s E 0 0 (some (.int v)) M') 177 [(0, .ref (eA E 67)), (1, .long x1), (5, .int x5), (7, .int x7)] [] M) (h : bb_X10_fewestLines_67_177 k_177 x1 x5 x7 M = some (v, M')) : G p l e (rmD 42) s m args below meth c E 10 0 0 (QR below args s E 0 0 (some (.int v)) M') 177 [(0, .ref (eA E 67)), (1, .long x1), (5, .int x5), (7, .int x7)] [] M := by
  unfold bb_X10_fewestLines_67_177 at h
  refine G.iload C 3 dX10_fewestLines_177 rfl ?_
  refine G.bipush (v := (32 : Int32)) C dX10_fewestLines_179 (by decide) ?_
  refine G.icmp_ge (tgt := 198) C dX10_fewestLines_181 (by decide) (fun hc => ?_) (fun hc => ?_)
  · have h := it_t h hc
    refine G.iconst (v := (0 : Int32)) C dX10_fewestLines_198 (by decide) ?_
    refine G.istore (L' := [(7, .int (0 : Int32)), (0, .ref (eA E 67)), (1, .long x1), (5, .int x5)]) C dX10_fewestLines_199 rfl (by decide) rfl ?_
    exact G.sub [1, 2, 3, 0] rfl (g_X10_fewestLines_67_201 hE C hr  h)
  · have h := it_f h hc
    refine G.aload_n C 0 dX10_fewestLines_184 rfl rfl ?_
    refine G.getR (k := 35) C k_X10 (sm_67 hE) rfl (by decide) tg_1466 dX10_fewestLines_185 ?_
    refine G.iload C 3 dX10_fewestLines_188 rfl ?_
    refine G.iconst (v := (-1 : Int32)) C dX10_fewestLines_190 (by decide) ?_
    obtain ⟨hg_19, h⟩ := gd_ex h
    obtain ⟨M_20, eM_20, h⟩ := ltv_ex h
    refine G.sI (j := (ix x7)) C (sm_102 hE) hg_19 rfl dX10_fewestLines_191 eM_20 ?_
    obtain ⟨x7_21, ex7_21, h⟩ := ltv_ex h
    refine G.iinc (L' := [(7, .int x7_21), (0, .ref (eA E 67)), (1, .long x1), (5, .int x5)]) C 3 dX10_fewestLines_192 rfl (ex7_21.trans rfl) (by decide) rfl ?_
    refine G.goto (tgt := 177) C dX10_fewestLines_195 (by decide) ?_
    exact G.sub [1, 2, 3, 0] rfl (hk_177 _ _ _ _  h)
def b_X10_fewestLines_67_177 : Nat → Int64 → Int32 → Int32 → Mm → Option (Int32 × Mm)
  | 0, _, _, _, _ => none
  | n + 1, x1, x5, x7, M => bb_X10_fewestLines_67_177 (b_X10_fewestLines_67_177 n) x1 x5 x7 M
set_option maxHeartbeats 4000000 in
theorem g_X10_fewestLines_67_177  {n : Nat} {x1 : Int64} {x5 : Int32} {x7 : Int32} {M : Mm} {v : Int32} {M' : Mm} (hE : Has shM (eH E)) (C : Cx RX10 cX10_fewestLines 10 p (rmD 42) s m args meth c E) (hr : meth.sig.returnType = (some .int)) (h : b_X10_fewestLines_67_177 n x1 x5 x7 M = some (v, M')) : G p l e (rmD 42) s m args below meth c E 10 0 0 (QR below args s E 0 0 (some (.int v)) M') 177 [(0, .ref (eA E 67)), (1, .long x1), (5, .int x5), (7, .int x7)] [] M := by
  induction n generalizing x1 x5 x7 M with
  | zero => cases h
  | succ n ih => exact gb_X10_fewestLines_67_177 hE C hr (fun _ _ _ _ => ih)  h
def bb_X10_fewestLines_67_125 (k_125 : Int64 → Int32 → Int32 → Int32 → Int32 → Mm → Option (Int32 × Mm)) (x1 : Int64) (x3 : Int32) (x5 : Int32) (x6 : Int32) (x7 : Int32) (M : Mm) : Option (Int32 × Mm) := if (32 : Int32) ≤ x7 then (ltv (wI M 67 37 x6) fun M_10 => b_X10_fewestLines_67_177 FU x1 x5 (0 : Int32) M_10) else (if ((shrI x6 x7) &&& (1 : Int32)) = (1 : Int32) then (if ((shrI x3 x7) &&& (1 : Int32)) = 0 then (ltv (x5 + (1 : Int32)) fun x5_15 => ltv (x7 + (1 : Int32)) fun x7_16 => k_125 x1 x3 x5_15 x6 x7_16 M) else (ltv (x5 + (0 : Int32)) fun x5_13 => ltv (x7 + (1 : Int32)) fun x7_14 => k_125 x1 x3 x5_13 x6 x7_14 M)) else (ltv (x5 + (0 : Int32)) fun x5_11 => ltv (x7 + (1 : Int32)) fun x7_12 => k_125 x1 x3 x5_11 x6 x7_12 M))
set_option maxHeartbeats 4000000 in
set_option maxRecDepth 100000 in
theorem gb_X10_fewestLines_67_125  {k_125 : Int64 → Int32 → Int32 → Int32 → Int32 → Mm → Option (Int32 × Mm)} {x1 : Int64} {x3 : Int32} {x5 : Int32} {x6 : Int32} {x7 : Int32} {M : Mm} {v : Int32} {M' : Mm} (hE : Has shM (eH E)) (C : Cx RX10 cX10_fewestLines 10 p (rmD 42) s m args meth c E) (hr : meth.sig.returnType = (some .int)) (hk_125 : ∀ (x1 : Int64) (x3 : Int32) (x5 : Int32) (x6 : Int32) (x7 : Int32) (M : Mm), k_125 x1 x3 x5 x6 x7 M = some (v, M') → G p l e (rmD 42) s m args below meth c E 10 0 0 (QR below args s E 0 0 (some (.int v)) M') 125 [(0, .ref (eA E 67)), (1, .long x1), (3, .int x3), (5, .int x5), (6, .int x6), (7, .int x7)] [] M) (h : bb_X10_fewestLines_67_125 k_125 x1 x3 x5 x6 x7 M = some (v, M')) : G p l e (rmD 42) s m args below meth c E 10 0 0 (QR below args s E 0 0 (some (.int v)) M') 125 [(0, .ref (eA E 67)), (1, .long x1), (3, .int x3), (5, .int x5), (6, .int x6), (7, .int x7)] [] M := by
  unfold bb_X10_fewestLines_67_125 at h
  refine G.iload C 5 dX10_fewestLines_125 rfl ?_
  refine G.bipush (v := (32 : Int32)) C dX10_fewestLines_127 (by decide) ?_
  refine G.icmp_ge (tgt := 168) C dX10_fewestLines_129 (by decide) (fun hc => ?_) (fun hc => ?_)
  · have h := it_t h hc
    refine G.aload_n C 0 dX10_fewestLines_168 rfl rfl ?_
    refine G.iload C 4 dX10_fewestLines_169 rfl ?_
    obtain ⟨M_10, eM_10, h⟩ := ltv_ex h
    refine G.putI (k := 37) C k_X10 (sm_67 hE) rfl (by decide) tg_1468 rfl rfl dX10_fewestLines_171 eM_10 ?_
    refine G.iconst (v := (0 : Int32)) C dX10_fewestLines_174 (by decide) ?_
    refine G.istore (L' := [(7, .int (0 : Int32)), (0, .ref (eA E 67)), (1, .long x1), (3, .int x3), (5, .int x5), (6, .int x6)]) C dX10_fewestLines_175 rfl (by decide) rfl ?_
    exact G.sub [1, 2, 4, 0] rfl (g_X10_fewestLines_67_177 hE C hr  h)
  · have h := it_f h hc
    refine G.iload C 3 dX10_fewestLines_132 rfl ?_
    refine G.iload C 4 dX10_fewestLines_134 rfl ?_
    refine G.iload C 5 dX10_fewestLines_136 rfl ?_
    refine G.isr C dX10_fewestLines_138 ?_
    refine G.iconst (v := (1 : Int32)) C dX10_fewestLines_139 (by decide) ?_
    refine G.iand C dX10_fewestLines_140 ?_
    refine G.iconst (v := (1 : Int32)) C dX10_fewestLines_141 (by decide) ?_
    refine G.icmp_ne (tgt := 158) C dX10_fewestLines_142 (by decide) (fun hc => ?_) (fun hc => ?_)
    · have h := it_f h hc
      refine G.iconst (v := (0 : Int32)) C dX10_fewestLines_158 (by decide) ?_
      refine G.iadd C dX10_fewestLines_159 ?_
      obtain ⟨x5_11, ex5_11, h⟩ := ltv_ex h
      refine G.istore (L' := [(5, .int x5_11), (0, .ref (eA E 67)), (1, .long x1), (3, .int x3), (6, .int x6), (7, .int x7)]) C dX10_fewestLines_160 ex5_11 (by decide) rfl ?_
      obtain ⟨x7_12, ex7_12, h⟩ := ltv_ex h
      refine G.iinc (L' := [(7, .int x7_12), (5, .int x5_11), (0, .ref (eA E 67)), (1, .long x1), (3, .int x3), (6, .int x6)]) C 5 dX10_fewestLines_162 rfl (ex7_12.trans rfl) (by decide) rfl ?_
      refine G.goto (tgt := 125) C dX10_fewestLines_165 (by decide) ?_
      exact G.sub [2, 3, 4, 1, 5, 0] rfl (hk_125 _ _ _ _ _ _  h)
    · have h := it_t h hc
      refine G.iload_n C 2 dX10_fewestLines_145 rfl rfl ?_
      refine G.iload C 5 dX10_fewestLines_146 rfl ?_
      refine G.isr C dX10_fewestLines_148 ?_
      refine G.iconst (v := (1 : Int32)) C dX10_fewestLines_149 (by decide) ?_
      refine G.iand C dX10_fewestLines_150 ?_
      refine G.if_ne (tgt := 158) C dX10_fewestLines_151 (by decide) (fun hc => ?_) (fun hc => ?_)
      · have h := it_f h hc
        refine G.iconst (v := (0 : Int32)) C dX10_fewestLines_158 (by decide) ?_
        refine G.iadd C dX10_fewestLines_159 ?_
        obtain ⟨x5_13, ex5_13, h⟩ := ltv_ex h
        refine G.istore (L' := [(5, .int x5_13), (0, .ref (eA E 67)), (1, .long x1), (3, .int x3), (6, .int x6), (7, .int x7)]) C dX10_fewestLines_160 ex5_13 (by decide) rfl ?_
        obtain ⟨x7_14, ex7_14, h⟩ := ltv_ex h
        refine G.iinc (L' := [(7, .int x7_14), (5, .int x5_13), (0, .ref (eA E 67)), (1, .long x1), (3, .int x3), (6, .int x6)]) C 5 dX10_fewestLines_162 rfl (ex7_14.trans rfl) (by decide) rfl ?_
        refine G.goto (tgt := 125) C dX10_fewestLines_165 (by decide) ?_
        exact G.sub [2, 3, 4, 1, 5, 0] rfl (hk_125 _ _ _ _ _ _  h)
      · have h := it_t h hc
        refine G.iconst (v := (1 : Int32)) C dX10_fewestLines_154 (by decide) ?_
        refine G.goto (tgt := 159) C dX10_fewestLines_155 (by decide) ?_
        refine G.iadd C dX10_fewestLines_159 ?_
        obtain ⟨x5_15, ex5_15, h⟩ := ltv_ex h
        refine G.istore (L' := [(5, .int x5_15), (0, .ref (eA E 67)), (1, .long x1), (3, .int x3), (6, .int x6), (7, .int x7)]) C dX10_fewestLines_160 ex5_15 (by decide) rfl ?_
        obtain ⟨x7_16, ex7_16, h⟩ := ltv_ex h
        refine G.iinc (L' := [(7, .int x7_16), (5, .int x5_15), (0, .ref (eA E 67)), (1, .long x1), (3, .int x3), (6, .int x6)]) C 5 dX10_fewestLines_162 rfl (ex7_16.trans rfl) (by decide) rfl ?_
        refine G.goto (tgt := 125) C dX10_fewestLines_165 (by decide) ?_
        exact G.sub [2, 3, 4, 1, 5, 0] rfl (hk_125 _ _ _ _ _ _  h)
def b_X10_fewestLines_67_125 : Nat → Int64 → Int32 → Int32 → Int32 → Int32 → Mm → Option (Int32 × Mm)
  | 0, _, _, _, _, _, _ => none
  | n + 1, x1, x3, x5, x6, x7, M => bb_X10_fewestLines_67_125 (b_X10_fewestLines_67_125 n) x1 x3 x5 x6 x7 M
set_option maxHeartbeats 4000000 in
theorem g_X10_fewestLines_67_125  {n : Nat} {x1 : Int64} {x3 : Int32} {x5 : Int32} {x6 : Int32} {x7 : Int32} {M : Mm} {v : Int32} {M' : Mm} (hE : Has shM (eH E)) (C : Cx RX10 cX10_fewestLines 10 p (rmD 42) s m args meth c E) (hr : meth.sig.returnType = (some .int)) (h : b_X10_fewestLines_67_125 n x1 x3 x5 x6 x7 M = some (v, M')) : G p l e (rmD 42) s m args below meth c E 10 0 0 (QR below args s E 0 0 (some (.int v)) M') 125 [(0, .ref (eA E 67)), (1, .long x1), (3, .int x3), (5, .int x5), (6, .int x6), (7, .int x7)] [] M := by
  induction n generalizing x1 x3 x5 x6 x7 M with
  | zero => cases h
  | succ n ih => exact gb_X10_fewestLines_67_125 hE C hr (fun _ _ _ _ _ _ => ih)  h
def bb_X10_fewestLines_67_9 (k_9 : Int64 → Int32 → Int32 → Int32 → Int32 → Int32 → Mm → Option (Int32 × Mm)) (x1 : Int64) (x3 : Int32) (x4 : Int32) (x5 : Int32) (x6 : Int32) (x7 : Int32) (M : Mm) : Option (Int32 × Mm) := if (64 : Int32) ≤ x7 then (b_X10_fewestLines_67_125 FU x1 x3 x5 x6 (0 : Int32) M) else (bd (f_X10_is x1 x7) fun v_2 => if v_2 = 0 then (ltv (x7 + (1 : Int32)) fun x7_9 => k_9 x1 x3 x4 x5 x6 x7_9 M) else (gd (inb x7 64) (bd (f_X10_mayTake (M.1 100 (ix x7)) x4) fun v_5 => gd (inb x7 64) (bd (f_X10_mayTake (M.1 101 (ix x7)) x4) fun v_8 => if v_5 = 0 then (if v_8 = 0 then (some ((-1 : Int32), M)) else (bb_X10_fewestLines_67_68 k_9 x1 x3 x4 x5 x6 x7 v_5 v_8 M)) else (bb_X10_fewestLines_67_68 k_9 x1 x3 x4 x5 x6 x7 v_5 v_8 M)))))
set_option maxHeartbeats 4000000 in
set_option maxRecDepth 100000 in
theorem gb_X10_fewestLines_67_9  {k_9 : Int64 → Int32 → Int32 → Int32 → Int32 → Int32 → Mm → Option (Int32 × Mm)} {x1 : Int64} {x3 : Int32} {x4 : Int32} {x5 : Int32} {x6 : Int32} {x7 : Int32} {M : Mm} {v : Int32} {M' : Mm} (hE : Has shM (eH E)) (C : Cx RX10 cX10_fewestLines 10 p (rmD 42) s m args meth c E) (hr : meth.sig.returnType = (some .int)) (hk_9 : ∀ (x1 : Int64) (x3 : Int32) (x4 : Int32) (x5 : Int32) (x6 : Int32) (x7 : Int32) (M : Mm), k_9 x1 x3 x4 x5 x6 x7 M = some (v, M') → G p l e (rmD 42) s m args below meth c E 10 0 0 (QR below args s E 0 0 (some (.int v)) M') 9 [(0, .ref (eA E 67)), (1, .long x1), (3, .int x3), (4, .int x4), (5, .int x5), (6, .int x6), (7, .int x7)] [] M) (h : bb_X10_fewestLines_67_9 k_9 x1 x3 x4 x5 x6 x7 M = some (v, M')) : G p l e (rmD 42) s m args below meth c E 10 0 0 (QR below args s E 0 0 (some (.int v)) M') 9 [(0, .ref (eA E 67)), (1, .long x1), (3, .int x3), (4, .int x4), (5, .int x5), (6, .int x6), (7, .int x7)] [] M := by
  unfold bb_X10_fewestLines_67_9 at h
  refine G.iload C 6 dX10_fewestLines_9 rfl ?_
  refine G.bipush (v := (64 : Int32)) C dX10_fewestLines_11 (by decide) ?_
  refine G.icmp_ge (tgt := 122) C dX10_fewestLines_13 (by decide) (fun hc => ?_) (fun hc => ?_)
  · have h := it_t h hc
    refine G.iconst (v := (0 : Int32)) C dX10_fewestLines_122 (by decide) ?_
    refine G.istore (L' := [(7, .int (0 : Int32)), (0, .ref (eA E 67)), (1, .long x1), (3, .int x3), (4, .int x4), (5, .int x5), (6, .int x6)]) C dX10_fewestLines_123 rfl (by decide) rfl ?_
    exact G.sub [1, 2, 3, 5, 6, 0] rfl (g_X10_fewestLines_67_125 hE C hr  h)
  · have h := it_f h hc
    refine G.lload_n C 1 dX10_fewestLines_16 rfl rfl ?_
    refine G.iload C 6 dX10_fewestLines_17 rfl ?_
    obtain ⟨v_2, hv_1, h⟩ := bd_ex h
    refine G.callS (rest := []) C (s_X10_is  hv_1) ⟨tg_1650, tg_103, ok_X10_is, Nat.le_of_ble_eq_true rfl, Nat.le_of_ble_eq_true rfl⟩ tg_1648 tg_1649 rfl (Nat.le_of_ble_eq_true rfl) dX10_fewestLines_19 ⟨Nat.le_refl 0, Nat.le_refl 0⟩ ?_
    refine G.if_ne (tgt := 28) C dX10_fewestLines_22 (by decide) (fun hc => ?_) (fun hc => ?_)
    · have h := it_f h hc
      refine G.aload_n C 0 dX10_fewestLines_28 rfl rfl ?_
      refine G.getR (k := 33) C k_X10 (sm_67 hE) rfl (by decide) tg_1464 dX10_fewestLines_29 ?_
      refine G.iload C 6 dX10_fewestLines_32 rfl ?_
      obtain ⟨hg_3, h⟩ := gd_ex h
      refine G.aI (j := ix x7) C (sm_100 hE) hg_3 rfl dX10_fewestLines_34 ?_
      refine G.iload C 3 dX10_fewestLines_35 rfl ?_
      obtain ⟨v_5, hv_4, h⟩ := bd_ex h
      refine G.callS (rest := []) C (s_X10_mayTake  hv_4) ⟨tg_1769, tg_103, ok_X10_mayTake, Nat.le_of_ble_eq_true rfl, Nat.le_of_ble_eq_true rfl⟩ tg_1767 tg_1768 rfl (Nat.le_of_ble_eq_true rfl) dX10_fewestLines_37 ⟨Nat.le_refl 0, Nat.le_refl 0⟩ ?_
      refine G.istore (L' := [(8, .int v_5), (0, .ref (eA E 67)), (1, .long x1), (3, .int x3), (4, .int x4), (5, .int x5), (6, .int x6), (7, .int x7)]) C dX10_fewestLines_40 rfl (by decide) rfl ?_
      refine G.aload_n C 1 dX10_fewestLines_42 rfl rfl ?_
      refine G.getR (k := 34) C k_X10 (sm_67 hE) rfl (by decide) tg_1465 dX10_fewestLines_43 ?_
      refine G.iload C 7 dX10_fewestLines_46 rfl ?_
      obtain ⟨hg_6, h⟩ := gd_ex h
      refine G.aI (j := ix x7) C (sm_101 hE) hg_6 rfl dX10_fewestLines_48 ?_
      refine G.iload C 4 dX10_fewestLines_49 rfl ?_
      obtain ⟨v_8, hv_7, h⟩ := bd_ex h
      refine G.callS (rest := []) C (s_X10_mayTake  hv_7) ⟨tg_1769, tg_103, ok_X10_mayTake, Nat.le_of_ble_eq_true rfl, Nat.le_of_ble_eq_true rfl⟩ tg_1767 tg_1768 rfl (Nat.le_of_ble_eq_true rfl) dX10_fewestLines_51 ⟨Nat.le_refl 0, Nat.le_refl 0⟩ ?_
      refine G.istore (L' := [(9, .int v_8), (8, .int v_5), (0, .ref (eA E 67)), (1, .long x1), (3, .int x3), (4, .int x4), (5, .int x5), (6, .int x6), (7, .int x7)]) C dX10_fewestLines_54 rfl (by decide) rfl ?_
      refine G.iload C 1 dX10_fewestLines_56 rfl ?_
      refine G.if_ne (tgt := 68) C dX10_fewestLines_58 (by decide) (fun hc => ?_) (fun hc => ?_)
      · have h := it_f h hc
        exact G.sub [2, 3, 4, 5, 6, 7, 8, 1, 0] rfl (gb_X10_fewestLines_67_68 hE C hr hk_9  h)
      · have h := it_t h hc
        refine G.iload C 0 dX10_fewestLines_61 rfl ?_
        refine G.if_ne (tgt := 68) C dX10_fewestLines_63 (by decide) (fun hc => ?_) (fun hc => ?_)
        · have h := it_f h hc
          exact G.sub [2, 3, 4, 5, 6, 7, 8, 1, 0] rfl (gb_X10_fewestLines_67_68 hE C hr hk_9  h)
        · have h := it_t h hc
          refine G.iconst (v := (-1 : Int32)) C dX10_fewestLines_66 (by decide) ?_
          cases h
          exact G.iret C hr dX10_fewestLines_67
    · have h := it_t h hc
      refine G.goto (tgt := 116) C dX10_fewestLines_25 (by decide) ?_
      obtain ⟨x7_9, ex7_9, h⟩ := ltv_ex h
      refine G.iinc (L' := [(7, .int x7_9), (0, .ref (eA E 67)), (1, .long x1), (3, .int x3), (4, .int x4), (5, .int x5), (6, .int x6)]) C 6 dX10_fewestLines_116 rfl (ex7_9.trans rfl) (by decide) rfl ?_
      refine G.goto (tgt := 9) C dX10_fewestLines_119 (by decide) ?_
      exact G.sub [1, 2, 3, 4, 5, 6, 0] rfl (hk_9 _ _ _ _ _ _ _  h)
def b_X10_fewestLines_67_9 : Nat → Int64 → Int32 → Int32 → Int32 → Int32 → Int32 → Mm → Option (Int32 × Mm)
  | 0, _, _, _, _, _, _, _ => none
  | n + 1, x1, x3, x4, x5, x6, x7, M => bb_X10_fewestLines_67_9 (b_X10_fewestLines_67_9 n) x1 x3 x4 x5 x6 x7 M
set_option maxHeartbeats 4000000 in
theorem g_X10_fewestLines_67_9  {n : Nat} {x1 : Int64} {x3 : Int32} {x4 : Int32} {x5 : Int32} {x6 : Int32} {x7 : Int32} {M : Mm} {v : Int32} {M' : Mm} (hE : Has shM (eH E)) (C : Cx RX10 cX10_fewestLines 10 p (rmD 42) s m args meth c E) (hr : meth.sig.returnType = (some .int)) (h : b_X10_fewestLines_67_9 n x1 x3 x4 x5 x6 x7 M = some (v, M')) : G p l e (rmD 42) s m args below meth c E 10 0 0 (QR below args s E 0 0 (some (.int v)) M') 9 [(0, .ref (eA E 67)), (1, .long x1), (3, .int x3), (4, .int x4), (5, .int x5), (6, .int x6), (7, .int x7)] [] M := by
  induction n generalizing x1 x3 x4 x5 x6 x7 M with
  | zero => cases h
  | succ n ih => exact gb_X10_fewestLines_67_9 hE C hr (fun _ _ _ _ _ _ _ => ih)  h
def bb_X10_fewestLines_67_0 (x1 : Int64) (x3 : Int32) (x4 : Int32) (M : Mm) : Option (Int32 × Mm) := b_X10_fewestLines_67_9 FU x1 x3 x4 (0 : Int32) x3 (0 : Int32) M
set_option maxHeartbeats 4000000 in
set_option maxRecDepth 100000 in
theorem gb_X10_fewestLines_67_0  {x1 : Int64} {x3 : Int32} {x4 : Int32} {M : Mm} {v : Int32} {M' : Mm} (hE : Has shM (eH E)) (C : Cx RX10 cX10_fewestLines 10 p (rmD 42) s m args meth c E) (hr : meth.sig.returnType = (some .int)) (h : bb_X10_fewestLines_67_0 x1 x3 x4 M = some (v, M')) : G p l e (rmD 42) s m args below meth c E 10 0 0 (QR below args s E 0 0 (some (.int v)) M') 0 [(0, .ref (eA E 67)), (1, .long x1), (3, .int x3), (4, .int x4)] [] M := by
  unfold bb_X10_fewestLines_67_0 at h
  refine G.iconst (v := (0 : Int32)) C dX10_fewestLines_0 (by decide) ?_
  refine G.istore (L' := [(5, .int (0 : Int32)), (0, .ref (eA E 67)), (1, .long x1), (3, .int x3), (4, .int x4)]) C dX10_fewestLines_1 rfl (by decide) rfl ?_
  refine G.iload_n C 3 dX10_fewestLines_3 rfl rfl ?_
  refine G.istore (L' := [(6, .int x3), (5, .int (0 : Int32)), (0, .ref (eA E 67)), (1, .long x1), (3, .int x3), (4, .int x4)]) C dX10_fewestLines_4 rfl (by decide) rfl ?_
  refine G.iconst (v := (0 : Int32)) C dX10_fewestLines_6 (by decide) ?_
  refine G.istore (L' := [(7, .int (0 : Int32)), (6, .int x3), (5, .int (0 : Int32)), (0, .ref (eA E 67)), (1, .long x1), (3, .int x3), (4, .int x4)]) C dX10_fewestLines_7 rfl (by decide) rfl ?_
  exact G.sub [3, 4, 5, 6, 2, 1, 0] rfl (g_X10_fewestLines_67_9 hE C hr  h)
def f_X10_fewestLines_67 (x1 : Int64) (x3 : Int32) (x4 : Int32) (M : Mm) : Option (Int32 × Mm) := bb_X10_fewestLines_67_0 x1 x3 x4 M
theorem s_X10_fewestLines_67 {l : Launch} {E : Ev} {x1 : Int64} {x3 : Int32} {x4 : Int32} {M : Mm} {v : Int32} {M' : Mm} (hE : Has shM (eH E)) (h : f_X10_fewestLines_67 x1 x3 x4 M = some (v, M')) : MetA l yX10_fewestLines cX10_fewestLines 10 (some .int) 42 E [.ref (eA E 67), .long x1, .int x3, .int x4] M (some (.int v)) M' := by
  refine MetA.of (by decide +kernel) (Nat.le_of_ble_eq_true rfl) ?_
  intro p e s m below meth c C hr hnm
  exact G.sub [0, 1, 2, 3] rfl (gb_X10_fewestLines_67_0 hE C hr  h)
def bb_X10_bites_67_41 (x1 : Int32) (s1 : Int32) (M : Mm) : Option (Int32 × Mm) := bd2 (f_X10_bad_67 s1 (2 : Int32) M) fun v_11 M_10 => if v_11 = 0 then (gd (inb x1 10) (bd (f_X10_findTakes_67 (M_10.2 72 (ix x1)) M_10) fun M_14 => gd (inb x1 10) (bd (f_X10_reached (M_14.2 72 (ix x1))) fun v_17 => bd2 (f_X10_fewestLines_67 v_17 (0 : Int32) (0 : Int32) M_14) fun v_20 M_19 => some (v_20, M_19)))) else (some ((0 : Int32), M_10))
set_option maxHeartbeats 4000000 in
set_option maxRecDepth 100000 in
theorem gb_X10_bites_67_41  {x1 : Int32} {s1 : Int32} {M : Mm} {v : Int32} {M' : Mm} (hE : Has shM (eH E)) (C : Cx RX10 cX10_bites 3 p (rmD 43) s m args meth c E) (hr : meth.sig.returnType = (some .int)) (h : bb_X10_bites_67_41 x1 s1 M = some (v, M')) : G p l e (rmD 43) s m args below meth c E 3 0 0 (QR below args s E 0 0 (some (.int v)) M') 41 [(0, .ref (eA E 67)), (1, .int x1)] [.int s1, .ref (eA E 67)] M := by
  unfold bb_X10_bites_67_41 at h
  refine G.iconst (v := (2 : Int32)) C dX10_bites_41 (by decide) ?_
  obtain ⟨v_11, M_10, hv_9, h⟩ := bd2_ex h
  refine G.callV (rest := []) C (s_X10_bad_67 hE  hv_9) ⟨tg_1600, tg_103, ok_X10_bad, Nat.le_of_ble_eq_true rfl, Nat.le_of_ble_eq_true rfl⟩ tg_1597 tg_1599 tg_46 (sm_67 hE) rfl rfl (Nat.le_of_ble_eq_true rfl) dX10_bites_42 ⟨Nat.le_refl 0, Nat.le_refl 0⟩ ?_
  refine G.if_eq (tgt := 50) C dX10_bites_45 (by decide) (fun hc => ?_) (fun hc => ?_)
  · have h := it_t h hc
    refine G.aload_n C 0 dX10_bites_50 rfl rfl ?_
    refine G.aload_n C 0 dX10_bites_51 rfl rfl ?_
    refine G.getR (k := 12) C k_X10 (sm_67 hE) rfl (by decide) tg_1443 dX10_bites_52 ?_
    refine G.iload_n C 1 dX10_bites_55 rfl rfl ?_
    obtain ⟨hg_12, h⟩ := gd_ex h
    refine G.aJ (j := ix x1) C (sm_72 hE) hg_12 rfl dX10_bites_56 ?_
    obtain ⟨M_14, hv_13, h⟩ := bd_ex h
    refine G.callV (rest := []) C (s_X10_findTakes_67 hE  hv_13) ⟨tg_1762, tg_103, ok_X10_findTakes, Nat.le_of_ble_eq_true rfl, Nat.le_of_ble_eq_true rfl⟩ tg_1759 tg_1761 tg_67 (sm_67 hE) rfl rfl (Nat.le_of_ble_eq_true rfl) dX10_bites_57 ⟨Nat.le_refl 0, Nat.le_refl 0⟩ ?_
    refine G.aload_n C 0 dX10_bites_60 rfl rfl ?_
    refine G.aload_n C 0 dX10_bites_61 rfl rfl ?_
    refine G.getR (k := 12) C k_X10 (sm_67 hE) rfl (by decide) tg_1443 dX10_bites_62 ?_
    refine G.iload_n C 1 dX10_bites_65 rfl rfl ?_
    obtain ⟨hg_15, h⟩ := gd_ex h
    refine G.aJ (j := ix x1) C (sm_72 hE) hg_15 rfl dX10_bites_66 ?_
    obtain ⟨v_17, hv_16, h⟩ := bd_ex h
    refine G.callS (rest := [.ref (eA E 67)]) C (s_X10_reached  hv_16) ⟨tg_1677, tg_103, ok_X10_reached, Nat.le_of_ble_eq_true rfl, Nat.le_of_ble_eq_true rfl⟩ tg_1675 tg_1676 rfl (Nat.le_of_ble_eq_true rfl) dX10_bites_67 ⟨Nat.le_refl 0, Nat.le_refl 0⟩ ?_
    refine G.iconst (v := (0 : Int32)) C dX10_bites_70 (by decide) ?_
    refine G.iconst (v := (0 : Int32)) C dX10_bites_71 (by decide) ?_
    obtain ⟨v_20, M_19, hv_18, h⟩ := bd2_ex h
    refine G.callV (rest := []) C (s_X10_fewestLines_67 hE  hv_18) ⟨tg_1766, tg_103, ok_X10_fewestLines, Nat.le_of_ble_eq_true rfl, Nat.le_of_ble_eq_true rfl⟩ tg_1763 tg_1765 tg_68 (sm_67 hE) rfl rfl (Nat.le_of_ble_eq_true rfl) dX10_bites_72 ⟨Nat.le_refl 0, Nat.le_refl 0⟩ ?_
    cases h
    exact G.iret C hr dX10_bites_75
  · have h := it_f h hc
    refine G.iconst (v := (0 : Int32)) C dX10_bites_48 (by decide) ?_
    cases h
    exact G.iret C hr dX10_bites_49
def bb_X10_bites_67_19 (x1 : Int32) (x2 : Int32) (s1 : Int32) (M : Mm) : Option (Int32 × Mm) := bd2 (f_X10_bad_67 s1 (1 : Int32) M) fun v_6 M_5 => if v_6 = 0 then (bd (f_X10_in x2 (0 : Int32) (1 : Int32)) fun v_8 => if v_8 = 0 then (bb_X10_bites_67_41 x1 (1 : Int32) M_5) else (bb_X10_bites_67_41 x1 (0 : Int32) M_5)) else (some ((0 : Int32), M_5))
set_option maxHeartbeats 4000000 in
set_option maxRecDepth 100000 in
theorem gb_X10_bites_67_19  {x1 : Int32} {x2 : Int32} {s1 : Int32} {M : Mm} {v : Int32} {M' : Mm} (hE : Has shM (eH E)) (C : Cx RX10 cX10_bites 3 p (rmD 43) s m args meth c E) (hr : meth.sig.returnType = (some .int)) (h : bb_X10_bites_67_19 x1 x2 s1 M = some (v, M')) : G p l e (rmD 43) s m args below meth c E 3 0 0 (QR below args s E 0 0 (some (.int v)) M') 19 [(0, .ref (eA E 67)), (1, .int x1), (2, .int x2)] [.int s1, .ref (eA E 67)] M := by
  unfold bb_X10_bites_67_19 at h
  refine G.iconst (v := (1 : Int32)) C dX10_bites_19 (by decide) ?_
  obtain ⟨v_6, M_5, hv_4, h⟩ := bd2_ex h
  refine G.callV (rest := []) C (s_X10_bad_67 hE  hv_4) ⟨tg_1600, tg_103, ok_X10_bad, Nat.le_of_ble_eq_true rfl, Nat.le_of_ble_eq_true rfl⟩ tg_1597 tg_1599 tg_46 (sm_67 hE) rfl rfl (Nat.le_of_ble_eq_true rfl) dX10_bites_20 ⟨Nat.le_refl 0, Nat.le_refl 0⟩ ?_
  refine G.if_ne (tgt := 48) C dX10_bites_23 (by decide) (fun hc => ?_) (fun hc => ?_)
  · have h := it_f h hc
    refine G.iconst (v := (0 : Int32)) C dX10_bites_48 (by decide) ?_
    cases h
    exact G.iret C hr dX10_bites_49
  · have h := it_t h hc
    refine G.aload_n C 0 dX10_bites_26 rfl rfl ?_
    refine G.iload_n C 2 dX10_bites_27 rfl rfl ?_
    refine G.iconst (v := (0 : Int32)) C dX10_bites_28 (by decide) ?_
    refine G.iconst (v := (1 : Int32)) C dX10_bites_29 (by decide) ?_
    obtain ⟨v_8, hv_7, h⟩ := bd_ex h
    refine G.callS (rest := [.ref (eA E 67)]) C (s_X10_in  hv_7) ⟨tg_1596, tg_103, ok_X10_in, Nat.le_of_ble_eq_true rfl, Nat.le_of_ble_eq_true rfl⟩ tg_1594 tg_1595 rfl (Nat.le_of_ble_eq_true rfl) dX10_bites_30 ⟨Nat.le_refl 0, Nat.le_refl 0⟩ ?_
    refine G.if_ne (tgt := 40) C dX10_bites_33 (by decide) (fun hc => ?_) (fun hc => ?_)
    · have h := it_f h hc
      refine G.iconst (v := (0 : Int32)) C dX10_bites_40 (by decide) ?_
      exact G.sub [0, 1] rfl (gb_X10_bites_67_41 hE C hr  h)
    · have h := it_t h hc
      refine G.iconst (v := (1 : Int32)) C dX10_bites_36 (by decide) ?_
      refine G.goto (tgt := 41) C dX10_bites_37 (by decide) ?_
      exact G.sub [0, 1] rfl (gb_X10_bites_67_41 hE C hr  h)
def bb_X10_bites_67_0 (x1 : Int32) (x2 : Int32) (M : Mm) : Option (Int32 × Mm) := ltv (wI M 67 0 (0 : Int32)) fun M_1 => bd (f_X10_isLetter_67 x1 M_1) fun v_3 => if v_3 = 0 then (bb_X10_bites_67_19 x1 x2 (1 : Int32) M_1) else (bb_X10_bites_67_19 x1 x2 (0 : Int32) M_1)
set_option maxHeartbeats 4000000 in
set_option maxRecDepth 100000 in
theorem gb_X10_bites_67_0  {x1 : Int32} {x2 : Int32} {M : Mm} {v : Int32} {M' : Mm} (hE : Has shM (eH E)) (C : Cx RX10 cX10_bites 3 p (rmD 43) s m args meth c E) (hr : meth.sig.returnType = (some .int)) (h : bb_X10_bites_67_0 x1 x2 M = some (v, M')) : G p l e (rmD 43) s m args below meth c E 3 0 0 (QR below args s E 0 0 (some (.int v)) M') 0 [(0, .ref (eA E 67)), (1, .int x1), (2, .int x2)] [] M := by
  unfold bb_X10_bites_67_0 at h
  refine G.aload_n C 0 dX10_bites_0 rfl rfl ?_
  refine G.iconst (v := (0 : Int32)) C dX10_bites_1 (by decide) ?_
  obtain ⟨M_1, eM_1, h⟩ := ltv_ex h
  refine G.putI (k := 0) C k_X10 (sm_67 hE) rfl (by decide) tg_1431 rfl rfl dX10_bites_2 eM_1 ?_
  refine G.aload_n C 0 dX10_bites_5 rfl rfl ?_
  refine G.aload_n C 0 dX10_bites_6 rfl rfl ?_
  refine G.iload_n C 1 dX10_bites_7 rfl rfl ?_
  obtain ⟨v_3, hv_2, h⟩ := bd_ex h
  refine G.callV (rest := [.ref (eA E 67)]) C (s_X10_isLetter_67 hE  hv_2) ⟨tg_1699, tg_103, ok_X10_isLetter, Nat.le_of_ble_eq_true rfl, Nat.le_of_ble_eq_true rfl⟩ tg_1696 tg_1698 tg_62 (sm_67 hE) rfl rfl (Nat.le_of_ble_eq_true rfl) dX10_bites_8 ⟨Nat.le_refl 0, Nat.le_refl 0⟩ ?_
  refine G.if_ne (tgt := 18) C dX10_bites_11 (by decide) (fun hc => ?_) (fun hc => ?_)
  · have h := it_f h hc
    refine G.iconst (v := (0 : Int32)) C dX10_bites_18 (by decide) ?_
    exact G.sub [0, 1, 2] rfl (gb_X10_bites_67_19 hE C hr  h)
  · have h := it_t h hc
    refine G.iconst (v := (1 : Int32)) C dX10_bites_14 (by decide) ?_
    refine G.goto (tgt := 19) C dX10_bites_15 (by decide) ?_
    exact G.sub [0, 1, 2] rfl (gb_X10_bites_67_19 hE C hr  h)
def f_X10_bites_67 (x1 : Int32) (x2 : Int32) (M : Mm) : Option (Int32 × Mm) := bb_X10_bites_67_0 x1 x2 M
theorem s_X10_bites_67 {l : Launch} {E : Ev} {x1 : Int32} {x2 : Int32} {M : Mm} {v : Int32} {M' : Mm} (hE : Has shM (eH E)) (h : f_X10_bites_67 x1 x2 M = some (v, M')) : MetA l yX10_bites cX10_bites 3 (some .int) 43 E [.ref (eA E 67), .int x1, .int x2] M (some (.int v)) M' := by
  refine MetA.of (by decide +kernel) (Nat.le_of_ble_eq_true rfl) ?_
  intro p e s m below meth c C hr hnm
  exact G.sub [0, 1, 2] rfl (gb_X10_bites_67_0 hE C hr  h)
def bb_X10_linesFor_67_63 (k_18 : Int64 → Int32 → Int32 → Int32 → Int32 → Mm → Option (Int32 × Mm)) (x1 : Int64) (x3 : Int32) (x4 : Int32) (x5 : Int32) (x6 : Int32) (M : Mm) : Option (Int32 × Mm) := ltv (x4 ||| (shI (1 : Int32) x6)) fun x4_9 => ltv (x3 + (-1 : Int32)) fun x3_10 => ltv (x6 + (-1 : Int32)) fun x6_11 => k_18 x1 x3_10 x4_9 x5 x6_11 M
set_option maxHeartbeats 4000000 in
set_option maxRecDepth 100000 in
theorem gb_X10_linesFor_67_63  {k_18 : Int64 → Int32 → Int32 → Int32 → Int32 → Mm → Option (Int32 × Mm)} {x1 : Int64} {x3 : Int32} {x4 : Int32} {x5 : Int32} {x6 : Int32} {M : Mm} {v : Int32} {M' : Mm} (hE : Has shM (eH E)) (C : Cx RX10 cX10_linesFor 8 p (rmD 43) s m args meth c E) (hr : meth.sig.returnType = (some .int)) (hk_18 : ∀ (x1 : Int64) (x3 : Int32) (x4 : Int32) (x5 : Int32) (x6 : Int32) (M : Mm), k_18 x1 x3 x4 x5 x6 M = some (v, M') → G p l e (rmD 43) s m args below meth c E 8 0 0 (QR below args s E 0 0 (some (.int v)) M') 18 [(0, .ref (eA E 67)), (1, .long x1), (3, .int x3), (4, .int x4), (5, .int x5), (6, .int x6)] [] M) (h : bb_X10_linesFor_67_63 k_18 x1 x3 x4 x5 x6 M = some (v, M')) : G p l e (rmD 43) s m args below meth c E 8 0 0 (QR below args s E 0 0 (some (.int v)) M') 63 [(0, .ref (eA E 67)), (1, .long x1), (3, .int x3), (4, .int x4), (5, .int x5), (6, .int x6)] [] M := by
  unfold bb_X10_linesFor_67_63 at h
  refine G.iload C 3 dX10_linesFor_63 rfl ?_
  refine G.iconst (v := (1 : Int32)) C dX10_linesFor_65 (by decide) ?_
  refine G.iload C 5 dX10_linesFor_66 rfl ?_
  refine G.isl C dX10_linesFor_68 ?_
  refine G.ior C dX10_linesFor_69 ?_
  obtain ⟨x4_9, ex4_9, h⟩ := ltv_ex h
  refine G.istore (L' := [(4, .int x4_9), (0, .ref (eA E 67)), (1, .long x1), (3, .int x3), (5, .int x5), (6, .int x6)]) C dX10_linesFor_70 ex4_9 (by decide) rfl ?_
  obtain ⟨x3_10, ex3_10, h⟩ := ltv_ex h
  refine G.iinc (L' := [(3, .int x3_10), (4, .int x4_9), (0, .ref (eA E 67)), (1, .long x1), (5, .int x5), (6, .int x6)]) C 3 dX10_linesFor_72 rfl (ex3_10.trans rfl) (by decide) rfl ?_
  obtain ⟨x6_11, ex6_11, h⟩ := ltv_ex h
  refine G.iinc (L' := [(6, .int x6_11), (3, .int x3_10), (4, .int x4_9), (0, .ref (eA E 67)), (1, .long x1), (5, .int x5)]) C 5 dX10_linesFor_75 rfl (ex6_11.trans rfl) (by decide) rfl ?_
  refine G.goto (tgt := 18) C dX10_linesFor_78 (by decide) ?_
  exact G.sub [3, 4, 1, 2, 5, 0] rfl (hk_18 _ _ _ _ _ _  h)
def bb_X10_linesFor_67_18 (k_18 : Int64 → Int32 → Int32 → Int32 → Int32 → Mm → Option (Int32 × Mm)) (x1 : Int64) (x3 : Int32) (x4 : Int32) (x5 : Int32) (x6 : Int32) (M : Mm) : Option (Int32 × Mm) := if x6 < 0 then (some (x4, M)) else (bd2 (f_X10_fewestLines_67 x1 x4 (x5 ||| (shI (1 : Int32) x6)) M) fun v_6 M_5 => if v_6 = (-1 : Int32) then (bb_X10_linesFor_67_63 k_18 x1 x3 x4 x5 x6 M_5) else (if v_6 = x3 then (ltv (x5 ||| (shI (1 : Int32) x6)) fun x5_7 => ltv (x6 + (-1 : Int32)) fun x6_8 => k_18 x1 x3 x4 x5_7 x6_8 M_5) else (bb_X10_linesFor_67_63 k_18 x1 x3 x4 x5 x6 M_5)))
set_option maxHeartbeats 4000000 in
set_option maxRecDepth 100000 in
theorem gb_X10_linesFor_67_18  {k_18 : Int64 → Int32 → Int32 → Int32 → Int32 → Mm → Option (Int32 × Mm)} {x1 : Int64} {x3 : Int32} {x4 : Int32} {x5 : Int32} {x6 : Int32} {M : Mm} {v : Int32} {M' : Mm} (hE : Has shM (eH E)) (C : Cx RX10 cX10_linesFor 8 p (rmD 43) s m args meth c E) (hr : meth.sig.returnType = (some .int)) (hk_18 : ∀ (x1 : Int64) (x3 : Int32) (x4 : Int32) (x5 : Int32) (x6 : Int32) (M : Mm), k_18 x1 x3 x4 x5 x6 M = some (v, M') → G p l e (rmD 43) s m args below meth c E 8 0 0 (QR below args s E 0 0 (some (.int v)) M') 18 [(0, .ref (eA E 67)), (1, .long x1), (3, .int x3), (4, .int x4), (5, .int x5), (6, .int x6)] [] M) (h : bb_X10_linesFor_67_18 k_18 x1 x3 x4 x5 x6 M = some (v, M')) : G p l e (rmD 43) s m args below meth c E 8 0 0 (QR below args s E 0 0 (some (.int v)) M') 18 [(0, .ref (eA E 67)), (1, .long x1), (3, .int x3), (4, .int x4), (5, .int x5), (6, .int x6)] [] M := by
  unfold bb_X10_linesFor_67_18 at h
  refine G.iload C 5 dX10_linesFor_18 rfl ?_
  refine G.if_lt (tgt := 81) C dX10_linesFor_20 (by decide) (fun hc => ?_) (fun hc => ?_)
  · have h := it_t h hc
    refine G.iload C 3 dX10_linesFor_81 rfl ?_
    cases h
    exact G.iret C hr dX10_linesFor_83
  · have h := it_f h hc
    refine G.aload_n C 0 dX10_linesFor_23 rfl rfl ?_
    refine G.lload_n C 1 dX10_linesFor_24 rfl rfl ?_
    refine G.iload C 3 dX10_linesFor_25 rfl ?_
    refine G.iload C 4 dX10_linesFor_27 rfl ?_
    refine G.iconst (v := (1 : Int32)) C dX10_linesFor_29 (by decide) ?_
    refine G.iload C 5 dX10_linesFor_30 rfl ?_
    refine G.isl C dX10_linesFor_32 ?_
    refine G.ior C dX10_linesFor_33 ?_
    obtain ⟨v_6, M_5, hv_4, h⟩ := bd2_ex h
    refine G.callV (rest := []) C (s_X10_fewestLines_67 hE  hv_4) ⟨tg_1766, tg_103, ok_X10_fewestLines, Nat.le_of_ble_eq_true rfl, Nat.le_of_ble_eq_true rfl⟩ tg_1763 tg_1765 tg_68 (sm_67 hE) rfl rfl (Nat.le_of_ble_eq_true rfl) dX10_linesFor_34 ⟨Nat.le_refl 0, Nat.le_refl 0⟩ ?_
    refine G.istore (L' := [(7, .int v_6), (0, .ref (eA E 67)), (1, .long x1), (3, .int x3), (4, .int x4), (5, .int x5), (6, .int x6)]) C dX10_linesFor_37 rfl (by decide) rfl ?_
    refine G.iload C 0 dX10_linesFor_39 rfl ?_
    refine G.iconst (v := (-1 : Int32)) C dX10_linesFor_41 (by decide) ?_
    refine G.icmp_eq (tgt := 63) C dX10_linesFor_42 (by decide) (fun hc => ?_) (fun hc => ?_)
    · have h := it_t h hc
      exact G.sub [1, 2, 3, 4, 5, 6] rfl (gb_X10_linesFor_67_63 hE C hr hk_18  h)
    · have h := it_f h hc
      refine G.iload C 0 dX10_linesFor_45 rfl ?_
      refine G.iload_n C 3 dX10_linesFor_47 rfl rfl ?_
      refine G.icmp_ne (tgt := 63) C dX10_linesFor_48 (by decide) (fun hc => ?_) (fun hc => ?_)
      · have h := it_f h hc
        exact G.sub [1, 2, 3, 4, 5, 6] rfl (gb_X10_linesFor_67_63 hE C hr hk_18  h)
      · have h := it_t h hc
        refine G.iload C 5 dX10_linesFor_51 rfl ?_
        refine G.iconst (v := (1 : Int32)) C dX10_linesFor_53 (by decide) ?_
        refine G.iload C 6 dX10_linesFor_54 rfl ?_
        refine G.isl C dX10_linesFor_56 ?_
        refine G.ior C dX10_linesFor_57 ?_
        obtain ⟨x5_7, ex5_7, h⟩ := ltv_ex h
        refine G.istore (L' := [(5, .int x5_7), (7, .int v_6), (0, .ref (eA E 67)), (1, .long x1), (3, .int x3), (4, .int x4), (6, .int x6)]) C dX10_linesFor_58 ex5_7 (by decide) rfl ?_
        refine G.goto (tgt := 75) C dX10_linesFor_60 (by decide) ?_
        obtain ⟨x6_8, ex6_8, h⟩ := ltv_ex h
        refine G.iinc (L' := [(6, .int x6_8), (5, .int x5_7), (7, .int v_6), (0, .ref (eA E 67)), (1, .long x1), (3, .int x3), (4, .int x4)]) C 6 dX10_linesFor_75 rfl (ex6_8.trans rfl) (by decide) rfl ?_
        refine G.goto (tgt := 18) C dX10_linesFor_78 (by decide) ?_
        exact G.sub [3, 4, 5, 6, 1, 0] rfl (hk_18 _ _ _ _ _ _  h)
def b_X10_linesFor_67_18 : Nat → Int64 → Int32 → Int32 → Int32 → Int32 → Mm → Option (Int32 × Mm)
  | 0, _, _, _, _, _, _ => none
  | n + 1, x1, x3, x4, x5, x6, M => bb_X10_linesFor_67_18 (b_X10_linesFor_67_18 n) x1 x3 x4 x5 x6 M
set_option maxHeartbeats 4000000 in
theorem g_X10_linesFor_67_18  {n : Nat} {x1 : Int64} {x3 : Int32} {x4 : Int32} {x5 : Int32} {x6 : Int32} {M : Mm} {v : Int32} {M' : Mm} (hE : Has shM (eH E)) (C : Cx RX10 cX10_linesFor 8 p (rmD 43) s m args meth c E) (hr : meth.sig.returnType = (some .int)) (h : b_X10_linesFor_67_18 n x1 x3 x4 x5 x6 M = some (v, M')) : G p l e (rmD 43) s m args below meth c E 8 0 0 (QR below args s E 0 0 (some (.int v)) M') 18 [(0, .ref (eA E 67)), (1, .long x1), (3, .int x3), (4, .int x4), (5, .int x5), (6, .int x6)] [] M := by
  induction n generalizing x1 x3 x4 x5 x6 M with
  | zero => cases h
  | succ n ih => exact gb_X10_linesFor_67_18 hE C hr (fun _ _ _ _ _ _ => ih)  h
def bb_X10_linesFor_67_0 (x1 : Int64) (M : Mm) : Option (Int32 × Mm) := bd2 (f_X10_fewestLines_67 x1 (0 : Int32) (0 : Int32) M) fun v_3 M_2 => b_X10_linesFor_67_18 FU x1 v_3 (0 : Int32) (0 : Int32) (31 : Int32) M_2
set_option maxHeartbeats 4000000 in
set_option maxRecDepth 100000 in
theorem gb_X10_linesFor_67_0  {x1 : Int64} {M : Mm} {v : Int32} {M' : Mm} (hE : Has shM (eH E)) (C : Cx RX10 cX10_linesFor 8 p (rmD 43) s m args meth c E) (hr : meth.sig.returnType = (some .int)) (h : bb_X10_linesFor_67_0 x1 M = some (v, M')) : G p l e (rmD 43) s m args below meth c E 8 0 0 (QR below args s E 0 0 (some (.int v)) M') 0 [(0, .ref (eA E 67)), (1, .long x1)] [] M := by
  unfold bb_X10_linesFor_67_0 at h
  refine G.aload_n C 0 dX10_linesFor_0 rfl rfl ?_
  refine G.lload_n C 1 dX10_linesFor_1 rfl rfl ?_
  refine G.iconst (v := (0 : Int32)) C dX10_linesFor_2 (by decide) ?_
  refine G.iconst (v := (0 : Int32)) C dX10_linesFor_3 (by decide) ?_
  obtain ⟨v_3, M_2, hv_1, h⟩ := bd2_ex h
  refine G.callV (rest := []) C (s_X10_fewestLines_67 hE  hv_1) ⟨tg_1766, tg_103, ok_X10_fewestLines, Nat.le_of_ble_eq_true rfl, Nat.le_of_ble_eq_true rfl⟩ tg_1763 tg_1765 tg_68 (sm_67 hE) rfl rfl (Nat.le_of_ble_eq_true rfl) dX10_linesFor_4 ⟨Nat.le_refl 0, Nat.le_refl 0⟩ ?_
  refine G.istore_n (L' := [(3, .int v_3), (0, .ref (eA E 67)), (1, .long x1)]) C dX10_linesFor_7 rfl rfl (by decide) rfl ?_
  refine G.iconst (v := (0 : Int32)) C dX10_linesFor_8 (by decide) ?_
  refine G.istore (L' := [(4, .int (0 : Int32)), (3, .int v_3), (0, .ref (eA E 67)), (1, .long x1)]) C dX10_linesFor_9 rfl (by decide) rfl ?_
  refine G.iconst (v := (0 : Int32)) C dX10_linesFor_11 (by decide) ?_
  refine G.istore (L' := [(5, .int (0 : Int32)), (4, .int (0 : Int32)), (3, .int v_3), (0, .ref (eA E 67)), (1, .long x1)]) C dX10_linesFor_12 rfl (by decide) rfl ?_
  refine G.bipush (v := (31 : Int32)) C dX10_linesFor_14 (by decide) ?_
  refine G.istore (L' := [(6, .int (31 : Int32)), (5, .int (0 : Int32)), (4, .int (0 : Int32)), (3, .int v_3), (0, .ref (eA E 67)), (1, .long x1)]) C dX10_linesFor_16 rfl (by decide) rfl ?_
  exact G.sub [4, 5, 3, 2, 1, 0] rfl (g_X10_linesFor_67_18 hE C hr  h)
def f_X10_linesFor_67 (x1 : Int64) (M : Mm) : Option (Int32 × Mm) := bb_X10_linesFor_67_0 x1 M
theorem s_X10_linesFor_67 {l : Launch} {E : Ev} {x1 : Int64} {M : Mm} {v : Int32} {M' : Mm} (hE : Has shM (eH E)) (h : f_X10_linesFor_67 x1 M = some (v, M')) : MetA l yX10_linesFor cX10_linesFor 8 (some .int) 43 E [.ref (eA E 67), .long x1] M (some (.int v)) M' := by
  refine MetA.of (by decide +kernel) (Nat.le_of_ble_eq_true rfl) ?_
  intro p e s m below meth c C hr hnm
  exact G.sub [0, 1] rfl (gb_X10_linesFor_67_0 hE C hr  h)
def bb_X10_lines_67_19 (x1 : Int32) (s1 : Int32) (M : Mm) : Option (Int64 × Mm) := bd2 (f_X10_bad_67 s1 (1 : Int32) M) fun v_6 M_5 => if v_6 = 0 then (gd (inb x1 10) (bd (f_X10_findTakes_67 (M_5.2 72 (ix x1)) M_5) fun M_9 => gd (inb x1 10) (bd (f_X10_reached (M_9.2 72 (ix x1))) fun v_12 => bd2 (f_X10_linesFor_67 v_12 M_9) fun v_15 M_14 => some ((v_15.toInt64) &&& (4294967295 : Int64), M_14)))) else (some ((0 : Int64), M_5))
set_option maxHeartbeats 4000000 in
set_option maxRecDepth 100000 in
theorem gb_X10_lines_67_19  {x1 : Int32} {s1 : Int32} {M : Mm} {v : Int64} {M' : Mm} (hE : Has shM (eH E)) (C : Cx RX10 cX10_lines 2 p (rmD 44) s m args meth c E) (hr : meth.sig.returnType = (some .long)) (h : bb_X10_lines_67_19 x1 s1 M = some (v, M')) : G p l e (rmD 44) s m args below meth c E 2 0 0 (QR below args s E 0 0 (some (.long v)) M') 19 [(0, .ref (eA E 67)), (1, .int x1)] [.int s1, .ref (eA E 67)] M := by
  unfold bb_X10_lines_67_19 at h
  refine G.iconst (v := (1 : Int32)) C dX10_lines_19 (by decide) ?_
  obtain ⟨v_6, M_5, hv_4, h⟩ := bd2_ex h
  refine G.callV (rest := []) C (s_X10_bad_67 hE  hv_4) ⟨tg_1600, tg_103, ok_X10_bad, Nat.le_of_ble_eq_true rfl, Nat.le_of_ble_eq_true rfl⟩ tg_1597 tg_1599 tg_46 (sm_67 hE) rfl rfl (Nat.le_of_ble_eq_true rfl) dX10_lines_20 ⟨Nat.le_refl 0, Nat.le_refl 0⟩ ?_
  refine G.if_eq (tgt := 28) C dX10_lines_23 (by decide) (fun hc => ?_) (fun hc => ?_)
  · have h := it_t h hc
    refine G.aload_n C 0 dX10_lines_28 rfl rfl ?_
    refine G.aload_n C 0 dX10_lines_29 rfl rfl ?_
    refine G.getR (k := 12) C k_X10 (sm_67 hE) rfl (by decide) tg_1443 dX10_lines_30 ?_
    refine G.iload_n C 1 dX10_lines_33 rfl rfl ?_
    obtain ⟨hg_7, h⟩ := gd_ex h
    refine G.aJ (j := ix x1) C (sm_72 hE) hg_7 rfl dX10_lines_34 ?_
    obtain ⟨M_9, hv_8, h⟩ := bd_ex h
    refine G.callV (rest := []) C (s_X10_findTakes_67 hE  hv_8) ⟨tg_1762, tg_103, ok_X10_findTakes, Nat.le_of_ble_eq_true rfl, Nat.le_of_ble_eq_true rfl⟩ tg_1759 tg_1761 tg_67 (sm_67 hE) rfl rfl (Nat.le_of_ble_eq_true rfl) dX10_lines_35 ⟨Nat.le_refl 0, Nat.le_refl 0⟩ ?_
    refine G.aload_n C 0 dX10_lines_38 rfl rfl ?_
    refine G.aload_n C 0 dX10_lines_39 rfl rfl ?_
    refine G.getR (k := 12) C k_X10 (sm_67 hE) rfl (by decide) tg_1443 dX10_lines_40 ?_
    refine G.iload_n C 1 dX10_lines_43 rfl rfl ?_
    obtain ⟨hg_10, h⟩ := gd_ex h
    refine G.aJ (j := ix x1) C (sm_72 hE) hg_10 rfl dX10_lines_44 ?_
    obtain ⟨v_12, hv_11, h⟩ := bd_ex h
    refine G.callS (rest := [.ref (eA E 67)]) C (s_X10_reached  hv_11) ⟨tg_1677, tg_103, ok_X10_reached, Nat.le_of_ble_eq_true rfl, Nat.le_of_ble_eq_true rfl⟩ tg_1675 tg_1676 rfl (Nat.le_of_ble_eq_true rfl) dX10_lines_45 ⟨Nat.le_refl 0, Nat.le_refl 0⟩ ?_
    obtain ⟨v_15, M_14, hv_13, h⟩ := bd2_ex h
    refine G.callV (rest := []) C (s_X10_linesFor_67 hE  hv_13) ⟨tg_1781, tg_103, ok_X10_linesFor, Nat.le_of_ble_eq_true rfl, Nat.le_of_ble_eq_true rfl⟩ tg_1778 tg_1780 tg_70 (sm_67 hE) rfl rfl (Nat.le_of_ble_eq_true rfl) dX10_lines_48 ⟨Nat.le_refl 0, Nat.le_refl 0⟩ ?_
    refine G.i2l (v := v_15.toInt64) C dX10_lines_51 rfl ?_
    refine G.ldc2 C tg_1782 dX10_lines_52 ?_
    refine G.land C dX10_lines_55 ?_
    cases h
    exact G.lret C hr dX10_lines_56
  · have h := it_f h hc
    refine G.lconst (v := (0 : Int64)) C dX10_lines_26 (by decide) ?_
    cases h
    exact G.lret C hr dX10_lines_27
def bb_X10_lines_67_0 (x1 : Int32) (M : Mm) : Option (Int64 × Mm) := ltv (wI M 67 0 (0 : Int32)) fun M_1 => bd (f_X10_isLetter_67 x1 M_1) fun v_3 => if v_3 = 0 then (bb_X10_lines_67_19 x1 (1 : Int32) M_1) else (bb_X10_lines_67_19 x1 (0 : Int32) M_1)
set_option maxHeartbeats 4000000 in
set_option maxRecDepth 100000 in
theorem gb_X10_lines_67_0  {x1 : Int32} {M : Mm} {v : Int64} {M' : Mm} (hE : Has shM (eH E)) (C : Cx RX10 cX10_lines 2 p (rmD 44) s m args meth c E) (hr : meth.sig.returnType = (some .long)) (h : bb_X10_lines_67_0 x1 M = some (v, M')) : G p l e (rmD 44) s m args below meth c E 2 0 0 (QR below args s E 0 0 (some (.long v)) M') 0 [(0, .ref (eA E 67)), (1, .int x1)] [] M := by
  unfold bb_X10_lines_67_0 at h
  refine G.aload_n C 0 dX10_lines_0 rfl rfl ?_
  refine G.iconst (v := (0 : Int32)) C dX10_lines_1 (by decide) ?_
  obtain ⟨M_1, eM_1, h⟩ := ltv_ex h
  refine G.putI (k := 0) C k_X10 (sm_67 hE) rfl (by decide) tg_1431 rfl rfl dX10_lines_2 eM_1 ?_
  refine G.aload_n C 0 dX10_lines_5 rfl rfl ?_
  refine G.aload_n C 0 dX10_lines_6 rfl rfl ?_
  refine G.iload_n C 1 dX10_lines_7 rfl rfl ?_
  obtain ⟨v_3, hv_2, h⟩ := bd_ex h
  refine G.callV (rest := [.ref (eA E 67)]) C (s_X10_isLetter_67 hE  hv_2) ⟨tg_1699, tg_103, ok_X10_isLetter, Nat.le_of_ble_eq_true rfl, Nat.le_of_ble_eq_true rfl⟩ tg_1696 tg_1698 tg_62 (sm_67 hE) rfl rfl (Nat.le_of_ble_eq_true rfl) dX10_lines_8 ⟨Nat.le_refl 0, Nat.le_refl 0⟩ ?_
  refine G.if_ne (tgt := 18) C dX10_lines_11 (by decide) (fun hc => ?_) (fun hc => ?_)
  · have h := it_f h hc
    refine G.iconst (v := (0 : Int32)) C dX10_lines_18 (by decide) ?_
    exact G.sub [0, 1] rfl (gb_X10_lines_67_19 hE C hr  h)
  · have h := it_t h hc
    refine G.iconst (v := (1 : Int32)) C dX10_lines_14 (by decide) ?_
    refine G.goto (tgt := 19) C dX10_lines_15 (by decide) ?_
    exact G.sub [0, 1] rfl (gb_X10_lines_67_19 hE C hr  h)
def f_X10_lines_67 (x1 : Int32) (M : Mm) : Option (Int64 × Mm) := bb_X10_lines_67_0 x1 M
theorem s_X10_lines_67 {l : Launch} {E : Ev} {x1 : Int32} {M : Mm} {v : Int64} {M' : Mm} (hE : Has shM (eH E)) (h : f_X10_lines_67 x1 M = some (v, M')) : MetA l yX10_lines cX10_lines 2 (some .long) 44 E [.ref (eA E 67), .int x1] M (some (.long v)) M' := by
  refine MetA.of (by decide +kernel) (Nat.le_of_ble_eq_true rfl) ?_
  intro p e s m below meth c C hr hnm
  exact G.sub [0, 1] rfl (gb_X10_lines_67_0 hE C hr  h)
def bb_X10_begin_67_19 (x1 : Int32) (s1 : Int32) (M : Mm) : Option Mm := bd2 (f_X10_bad_67 s1 (1 : Int32) M) fun v_6 M_5 => if v_6 = 0 then (ltv (wI M_5 67 23 x1) fun M_7 => ltv (wJ M_7 67 22 (-1 : Int64)) fun M_8 => ltv (wI M_8 67 24 (0 : Int32)) fun M_9 => some M_9) else (some M_5)
set_option maxHeartbeats 4000000 in
set_option maxRecDepth 100000 in
theorem gb_X10_begin_67_19  {x1 : Int32} {s1 : Int32} {M : Mm} {M' : Mm} (hE : Has shM (eH E)) (C : Cx RX10 cX10_begin 2 p (rmD 3) s m args meth c E) (hr : meth.sig.returnType = none) (h : bb_X10_begin_67_19 x1 s1 M = some M') : G p l e (rmD 3) s m args below meth c E 2 0 0 (QR below args s E 0 0 none M') 19 [(0, .ref (eA E 67)), (1, .int x1)] [.int s1, .ref (eA E 67)] M := by
  unfold bb_X10_begin_67_19 at h
  refine G.iconst (v := (1 : Int32)) C dX10_begin_19 (by decide) ?_
  obtain ⟨v_6, M_5, hv_4, h⟩ := bd2_ex h
  refine G.callV (rest := []) C (s_X10_bad_67 hE  hv_4) ⟨tg_1600, tg_103, ok_X10_bad, Nat.le_of_ble_eq_true rfl, Nat.le_of_ble_eq_true rfl⟩ tg_1597 tg_1599 tg_46 (sm_67 hE) rfl rfl (Nat.le_of_ble_eq_true rfl) dX10_begin_20 ⟨Nat.le_refl 0, Nat.le_refl 0⟩ ?_
  refine G.if_eq (tgt := 27) C dX10_begin_23 (by decide) (fun hc => ?_) (fun hc => ?_)
  · have h := it_t h hc
    refine G.aload_n C 0 dX10_begin_27 rfl rfl ?_
    refine G.iload_n C 1 dX10_begin_28 rfl rfl ?_
    obtain ⟨M_7, eM_7, h⟩ := ltv_ex h
    refine G.putI (k := 23) C k_X10 (sm_67 hE) rfl (by decide) tg_1454 rfl rfl dX10_begin_29 eM_7 ?_
    refine G.aload_n C 0 dX10_begin_32 rfl rfl ?_
    refine G.ldc2 C tg_1655 dX10_begin_33 ?_
    obtain ⟨M_8, eM_8, h⟩ := ltv_ex h
    refine G.putJ (k := 22) C k_X10 (sm_67 hE) rfl (by decide) tg_1453 rfl rfl dX10_begin_36 eM_8 ?_
    refine G.aload_n C 0 dX10_begin_39 rfl rfl ?_
    refine G.iconst (v := (0 : Int32)) C dX10_begin_40 (by decide) ?_
    obtain ⟨M_9, eM_9, h⟩ := ltv_ex h
    refine G.putI (k := 24) C k_X10 (sm_67 hE) rfl (by decide) tg_1455 rfl rfl dX10_begin_41 eM_9 ?_
    cases h
    exact G.vret C hr dX10_begin_44
  · have h := it_f h hc
    cases h
    exact G.vret C hr dX10_begin_26
def bb_X10_begin_67_0 (x1 : Int32) (M : Mm) : Option Mm := ltv (wI M 67 0 (0 : Int32)) fun M_1 => bd (f_X10_isLetter_67 x1 M_1) fun v_3 => if v_3 = 0 then (bb_X10_begin_67_19 x1 (1 : Int32) M_1) else (bb_X10_begin_67_19 x1 (0 : Int32) M_1)
set_option maxHeartbeats 4000000 in
set_option maxRecDepth 100000 in
theorem gb_X10_begin_67_0  {x1 : Int32} {M : Mm} {M' : Mm} (hE : Has shM (eH E)) (C : Cx RX10 cX10_begin 2 p (rmD 3) s m args meth c E) (hr : meth.sig.returnType = none) (h : bb_X10_begin_67_0 x1 M = some M') : G p l e (rmD 3) s m args below meth c E 2 0 0 (QR below args s E 0 0 none M') 0 [(0, .ref (eA E 67)), (1, .int x1)] [] M := by
  unfold bb_X10_begin_67_0 at h
  refine G.aload_n C 0 dX10_begin_0 rfl rfl ?_
  refine G.iconst (v := (0 : Int32)) C dX10_begin_1 (by decide) ?_
  obtain ⟨M_1, eM_1, h⟩ := ltv_ex h
  refine G.putI (k := 0) C k_X10 (sm_67 hE) rfl (by decide) tg_1431 rfl rfl dX10_begin_2 eM_1 ?_
  refine G.aload_n C 0 dX10_begin_5 rfl rfl ?_
  refine G.aload_n C 0 dX10_begin_6 rfl rfl ?_
  refine G.iload_n C 1 dX10_begin_7 rfl rfl ?_
  obtain ⟨v_3, hv_2, h⟩ := bd_ex h
  refine G.callV (rest := [.ref (eA E 67)]) C (s_X10_isLetter_67 hE  hv_2) ⟨tg_1699, tg_103, ok_X10_isLetter, Nat.le_of_ble_eq_true rfl, Nat.le_of_ble_eq_true rfl⟩ tg_1696 tg_1698 tg_62 (sm_67 hE) rfl rfl (Nat.le_of_ble_eq_true rfl) dX10_begin_8 ⟨Nat.le_refl 0, Nat.le_refl 0⟩ ?_
  refine G.if_ne (tgt := 18) C dX10_begin_11 (by decide) (fun hc => ?_) (fun hc => ?_)
  · have h := it_f h hc
    refine G.iconst (v := (0 : Int32)) C dX10_begin_18 (by decide) ?_
    exact G.sub [0, 1] rfl (gb_X10_begin_67_19 hE C hr  h)
  · have h := it_t h hc
    refine G.iconst (v := (1 : Int32)) C dX10_begin_14 (by decide) ?_
    refine G.goto (tgt := 19) C dX10_begin_15 (by decide) ?_
    exact G.sub [0, 1] rfl (gb_X10_begin_67_19 hE C hr  h)
def f_X10_begin_67 (x1 : Int32) (M : Mm) : Option Mm := bb_X10_begin_67_0 x1 M
theorem s_X10_begin_67 {l : Launch} {E : Ev} {x1 : Int32} {M : Mm} {M' : Mm} (hE : Has shM (eH E)) (h : f_X10_begin_67 x1 M = some M') : MetA l yX10_begin cX10_begin 2 none 3 E [.ref (eA E 67), .int x1] M none M' := by
  refine MetA.of (by decide +kernel) (Nat.le_of_ble_eq_true rfl) ?_
  intro p e s m below meth c C hr hnm
  exact G.sub [0, 1] rfl (gb_X10_begin_67_0 hE C hr  h)
def bb_X10_blows_67_39 (x1 : Int32) (s0 : Int32) (M : Mm) : Option (Int32 × Mm) := gd (inb x1 16) (ltv (wJ M 67 22 ((M.2 67 22) &&& ((M.2 91 (ix x1)) ^^^ (-1 : Int64)))) fun M_6 => if s0 = 0 then (gd (isB s0) (some (s0, M_6))) else (gd (inb x1 16) (bd (f_X10_beside (M_6.2 91 (ix x1))) fun v_10 => ltv (wJ M_6 67 22 ((M_6.2 67 22) &&& (v_10 ^^^ (-1 : Int64)))) fun M_11 => gd (isB s0) (some (s0, M_11)))))
set_option maxHeartbeats 4000000 in
set_option maxRecDepth 100000 in
theorem gb_X10_blows_67_39  {x1 : Int32} {s0 : Int32} {M : Mm} {v : Int32} {M' : Mm} (hE : Has shM (eH E)) (C : Cx RX10 cX10_blows 3 p (rmD 3) s m args meth c E) (hr : meth.sig.returnType = (some .boolean)) (h : bb_X10_blows_67_39 x1 s0 M = some (v, M')) : G p l e (rmD 3) s m args below meth c E 3 0 0 (QR below args s E 0 0 (some (.int v)) M') 39 [(0, .ref (eA E 67)), (1, .int x1)] [.int s0] M := by
  unfold bb_X10_blows_67_39 at h
  refine G.istore_n (L' := [(2, .int s0), (0, .ref (eA E 67)), (1, .int x1)]) C dX10_blows_39 rfl rfl (by decide) rfl ?_
  refine G.aload_n C 1 dX10_blows_40 rfl rfl ?_
  refine G.dup C dX10_blows_41 rfl ?_
  refine G.getJ (k := 22) C k_X10 (sm_67 hE) rfl (by decide) tg_1453 dX10_blows_42 ?_
  refine G.aload_n C 1 dX10_blows_45 rfl rfl ?_
  refine G.getR (k := 20) C k_X10 (sm_67 hE) rfl (by decide) tg_1451 dX10_blows_46 ?_
  refine G.iload_n C 2 dX10_blows_49 rfl rfl ?_
  obtain ⟨hg_5, h⟩ := gd_ex h
  refine G.aJ (j := ix x1) C (sm_91 hE) hg_5 rfl dX10_blows_50 ?_
  refine G.ldc2 C tg_1655 dX10_blows_51 ?_
  refine G.lxor C dX10_blows_54 ?_
  refine G.land C dX10_blows_55 ?_
  obtain ⟨M_6, eM_6, h⟩ := ltv_ex h
  refine G.putJ (k := 22) C k_X10 (sm_67 hE) rfl (by decide) tg_1453 rfl rfl dX10_blows_56 eM_6 ?_
  refine G.iload_n C 0 dX10_blows_59 rfl rfl ?_
  refine G.if_eq (tgt := 85) C dX10_blows_60 (by decide) (fun hc => ?_) (fun hc => ?_)
  · have h := it_t h hc
    refine G.iload_n C 0 dX10_blows_85 rfl rfl ?_
    obtain ⟨hb_7, h⟩ := gd_ex h
    cases h
    exact G.zret C hr (nz_ok (isB_s hb_7)) dX10_blows_86
  · have h := it_f h hc
    refine G.aload_n C 1 dX10_blows_63 rfl rfl ?_
    refine G.dup C dX10_blows_64 rfl ?_
    refine G.getJ (k := 22) C k_X10 (sm_67 hE) rfl (by decide) tg_1453 dX10_blows_65 ?_
    refine G.aload_n C 1 dX10_blows_68 rfl rfl ?_
    refine G.getR (k := 20) C k_X10 (sm_67 hE) rfl (by decide) tg_1451 dX10_blows_69 ?_
    refine G.iload_n C 2 dX10_blows_72 rfl rfl ?_
    obtain ⟨hg_8, h⟩ := gd_ex h
    refine G.aJ (j := ix x1) C (sm_91 hE) hg_8 rfl dX10_blows_73 ?_
    obtain ⟨v_10, hv_9, h⟩ := bd_ex h
    refine G.callS (rest := [.long (M_6.2 67 22), .ref (eA E 67)]) C (s_X10_beside  hv_9) ⟨tg_1683, tg_103, ok_X10_beside, Nat.le_of_ble_eq_true rfl, Nat.le_of_ble_eq_true rfl⟩ tg_1681 tg_1682 rfl (Nat.le_of_ble_eq_true rfl) dX10_blows_74 ⟨Nat.le_refl 0, Nat.le_refl 0⟩ ?_
    refine G.ldc2 C tg_1655 dX10_blows_77 ?_
    refine G.lxor C dX10_blows_80 ?_
    refine G.land C dX10_blows_81 ?_
    obtain ⟨M_11, eM_11, h⟩ := ltv_ex h
    refine G.putJ (k := 22) C k_X10 (sm_67 hE) rfl (by decide) tg_1453 rfl rfl dX10_blows_82 eM_11 ?_
    refine G.iload_n C 0 dX10_blows_85 rfl rfl ?_
    obtain ⟨hb_12, h⟩ := gd_ex h
    cases h
    exact G.zret C hr (nz_ok (isB_s hb_12)) dX10_blows_86
def bb_X10_blows_67_0 (x1 : Int32) (M : Mm) : Option (Int32 × Mm) := gd (inb x1 16) (bd (f_X10_beside (M.2 91 (ix x1))) fun v_3 => gd (inb x1 16) (if ((v_3 &&& ((M.2 91 (ix x1)) ^^^ (-1 : Int64))) &&& ((M.2 67 22) ^^^ (-1 : Int64))) = (0 : Int64) then (bb_X10_blows_67_39 x1 (0 : Int32) M) else (bb_X10_blows_67_39 x1 (1 : Int32) M)))
set_option maxHeartbeats 4000000 in
set_option maxRecDepth 100000 in
theorem gb_X10_blows_67_0  {x1 : Int32} {M : Mm} {v : Int32} {M' : Mm} (hE : Has shM (eH E)) (C : Cx RX10 cX10_blows 3 p (rmD 3) s m args meth c E) (hr : meth.sig.returnType = (some .boolean)) (h : bb_X10_blows_67_0 x1 M = some (v, M')) : G p l e (rmD 3) s m args below meth c E 3 0 0 (QR below args s E 0 0 (some (.int v)) M') 0 [(0, .ref (eA E 67)), (1, .int x1)] [] M := by
  unfold bb_X10_blows_67_0 at h
  refine G.aload_n C 0 dX10_blows_0 rfl rfl ?_
  refine G.getR (k := 20) C k_X10 (sm_67 hE) rfl (by decide) tg_1451 dX10_blows_1 ?_
  refine G.iload_n C 1 dX10_blows_4 rfl rfl ?_
  obtain ⟨hg_1, h⟩ := gd_ex h
  refine G.aJ (j := ix x1) C (sm_91 hE) hg_1 rfl dX10_blows_5 ?_
  obtain ⟨v_3, hv_2, h⟩ := bd_ex h
  refine G.callS (rest := []) C (s_X10_beside  hv_2) ⟨tg_1683, tg_103, ok_X10_beside, Nat.le_of_ble_eq_true rfl, Nat.le_of_ble_eq_true rfl⟩ tg_1681 tg_1682 rfl (Nat.le_of_ble_eq_true rfl) dX10_blows_6 ⟨Nat.le_refl 0, Nat.le_refl 0⟩ ?_
  refine G.aload_n C 0 dX10_blows_9 rfl rfl ?_
  refine G.getR (k := 20) C k_X10 (sm_67 hE) rfl (by decide) tg_1451 dX10_blows_10 ?_
  refine G.iload_n C 1 dX10_blows_13 rfl rfl ?_
  obtain ⟨hg_4, h⟩ := gd_ex h
  refine G.aJ (j := ix x1) C (sm_91 hE) hg_4 rfl dX10_blows_14 ?_
  refine G.ldc2 C tg_1655 dX10_blows_15 ?_
  refine G.lxor C dX10_blows_18 ?_
  refine G.land C dX10_blows_19 ?_
  refine G.aload_n C 0 dX10_blows_20 rfl rfl ?_
  refine G.getJ (k := 22) C k_X10 (sm_67 hE) rfl (by decide) tg_1453 dX10_blows_21 ?_
  refine G.ldc2 C tg_1655 dX10_blows_24 ?_
  refine G.lxor C dX10_blows_27 ?_
  refine G.land C dX10_blows_28 ?_
  refine G.lconst (v := (0 : Int64)) C dX10_blows_29 (by decide) ?_
  refine G.lcmp C dX10_blows_30 (G.if_eq (tgt := 38) C dX10_blows_31 (by decide) (fun hc => ?_) (fun hc => ?_))
  · have h := it_t h (lgc_eq.mp hc)
    refine G.iconst (v := (0 : Int32)) C dX10_blows_38 (by decide) ?_
    exact G.sub [0, 1] rfl (gb_X10_blows_67_39 hE C hr  h)
  · have h := it_f h ((not_congr lgc_eq).mp hc)
    refine G.iconst (v := (1 : Int32)) C dX10_blows_34 (by decide) ?_
    refine G.goto (tgt := 39) C dX10_blows_35 (by decide) ?_
    exact G.sub [0, 1] rfl (gb_X10_blows_67_39 hE C hr  h)
def f_X10_blows_67 (x1 : Int32) (M : Mm) : Option (Int32 × Mm) := bb_X10_blows_67_0 x1 M
theorem s_X10_blows_67 {l : Launch} {E : Ev} {x1 : Int32} {M : Mm} {v : Int32} {M' : Mm} (hE : Has shM (eH E)) (h : f_X10_blows_67 x1 M = some (v, M')) : MetA l yX10_blows cX10_blows 3 (some .boolean) 3 E [.ref (eA E 67), .int x1] M (some (.int v)) M' := by
  refine MetA.of (by decide +kernel) (Nat.le_of_ble_eq_true rfl) ?_
  intro p e s m below meth c C hr hnm
  exact G.sub [0, 1] rfl (gb_X10_blows_67_0 hE C hr  h)
def bb_X10_blow_67_19 (x1 : Int32) (s1 : Int32) (M : Mm) : Option (Int32 × Mm) := bd2 (f_X10_bad_67 s1 (1 : Int32) M) fun v_6 M_5 => if v_6 = 0 then (if (M_5.1 67 23) = (-1 : Int32) then (some ((-1 : Int32), M_5)) else (gd (inb x1 16) (if (M_5.1 92 (ix x1)) = (M_5.1 67 23) then (bd (f_X10_ones (M_5.2 67 22)) fun v_9 => bd2 (f_X10_blows_67 x1 M_5) fun v_12 M_11 => if v_12 = 0 then (bd (f_X10_ones (M_11.2 67 22)) fun v_14 => some (v_9 - v_14, M_11)) else (ltv (wI M_11 67 24 (1 : Int32)) fun M_15 => bd (f_X10_ones (M_15.2 67 22)) fun v_17 => some (v_9 - v_17, M_15))) else (some ((-2 : Int32), M_5))))) else (some ((0 : Int32), M_5))
set_option maxHeartbeats 4000000 in
set_option maxRecDepth 100000 in
theorem gb_X10_blow_67_19  {x1 : Int32} {s1 : Int32} {M : Mm} {v : Int32} {M' : Mm} (hE : Has shM (eH E)) (C : Cx RX10 cX10_blow 3 p (rmD 4) s m args meth c E) (hr : meth.sig.returnType = (some .int)) (h : bb_X10_blow_67_19 x1 s1 M = some (v, M')) : G p l e (rmD 4) s m args below meth c E 3 0 0 (QR below args s E 0 0 (some (.int v)) M') 19 [(0, .ref (eA E 67)), (1, .int x1)] [.int s1, .ref (eA E 67)] M := by
  unfold bb_X10_blow_67_19 at h
  refine G.iconst (v := (1 : Int32)) C dX10_blow_19 (by decide) ?_
  obtain ⟨v_6, M_5, hv_4, h⟩ := bd2_ex h
  refine G.callV (rest := []) C (s_X10_bad_67 hE  hv_4) ⟨tg_1600, tg_103, ok_X10_bad, Nat.le_of_ble_eq_true rfl, Nat.le_of_ble_eq_true rfl⟩ tg_1597 tg_1599 tg_46 (sm_67 hE) rfl rfl (Nat.le_of_ble_eq_true rfl) dX10_blow_20 ⟨Nat.le_refl 0, Nat.le_refl 0⟩ ?_
  refine G.if_eq (tgt := 28) C dX10_blow_23 (by decide) (fun hc => ?_) (fun hc => ?_)
  · have h := it_t h hc
    refine G.aload_n C 0 dX10_blow_28 rfl rfl ?_
    refine G.getI (k := 23) C k_X10 (sm_67 hE) rfl (by decide) tg_1454 dX10_blow_29 ?_
    refine G.iconst (v := (-1 : Int32)) C dX10_blow_32 (by decide) ?_
    refine G.icmp_ne (tgt := 38) C dX10_blow_33 (by decide) (fun hc => ?_) (fun hc => ?_)
    · have h := it_f h hc
      refine G.aload_n C 0 dX10_blow_38 rfl rfl ?_
      refine G.getR (k := 21) C k_X10 (sm_67 hE) rfl (by decide) tg_1452 dX10_blow_39 ?_
      refine G.iload_n C 1 dX10_blow_42 rfl rfl ?_
      obtain ⟨hg_7, h⟩ := gd_ex h
      refine G.aI (j := ix x1) C (sm_92 hE) hg_7 rfl dX10_blow_43 ?_
      refine G.aload_n C 0 dX10_blow_44 rfl rfl ?_
      refine G.getI (k := 23) C k_X10 (sm_67 hE) rfl (by decide) tg_1454 dX10_blow_45 ?_
      refine G.icmp_eq (tgt := 54) C dX10_blow_48 (by decide) (fun hc => ?_) (fun hc => ?_)
      · have h := it_t h hc
        refine G.aload_n C 0 dX10_blow_54 rfl rfl ?_
        refine G.getJ (k := 22) C k_X10 (sm_67 hE) rfl (by decide) tg_1453 dX10_blow_55 ?_
        obtain ⟨v_9, hv_8, h⟩ := bd_ex h
        refine G.callS (rest := []) C (s_X10_ones  hv_8) ⟨tg_1706, tg_103, ok_X10_ones, Nat.le_of_ble_eq_true rfl, Nat.le_of_ble_eq_true rfl⟩ tg_1704 tg_1705 rfl (Nat.le_of_ble_eq_true rfl) dX10_blow_58 ⟨Nat.le_refl 0, Nat.le_refl 0⟩ ?_
        refine G.istore_n (L' := [(2, .int v_9), (0, .ref (eA E 67)), (1, .int x1)]) C dX10_blow_61 rfl rfl (by decide) rfl ?_
        refine G.aload_n C 1 dX10_blow_62 rfl rfl ?_
        refine G.iload_n C 2 dX10_blow_63 rfl rfl ?_
        obtain ⟨v_12, M_11, hv_10, h⟩ := bd2_ex h
        refine G.callV (rest := []) C (s_X10_blows_67 hE  hv_10) ⟨tg_1794, tg_103, ok_X10_blows, Nat.le_of_ble_eq_true rfl, Nat.le_of_ble_eq_true rfl⟩ tg_1791 tg_1793 tg_71 (sm_67 hE) rfl rfl (Nat.le_of_ble_eq_true rfl) dX10_blow_64 ⟨Nat.le_refl 0, Nat.le_refl 0⟩ ?_
        refine G.if_eq (tgt := 75) C dX10_blow_67 (by decide) (fun hc => ?_) (fun hc => ?_)
        · have h := it_t h hc
          refine G.iload_n C 0 dX10_blow_75 rfl rfl ?_
          refine G.aload_n C 1 dX10_blow_76 rfl rfl ?_
          refine G.getJ (k := 22) C k_X10 (sm_67 hE) rfl (by decide) tg_1453 dX10_blow_77 ?_
          obtain ⟨v_14, hv_13, h⟩ := bd_ex h
          refine G.callS (rest := [.int v_9]) C (s_X10_ones  hv_13) ⟨tg_1706, tg_103, ok_X10_ones, Nat.le_of_ble_eq_true rfl, Nat.le_of_ble_eq_true rfl⟩ tg_1704 tg_1705 rfl (Nat.le_of_ble_eq_true rfl) dX10_blow_80 ⟨Nat.le_refl 0, Nat.le_refl 0⟩ ?_
          refine G.isub C dX10_blow_83 ?_
          cases h
          exact G.iret C hr dX10_blow_84
        · have h := it_f h hc
          refine G.aload_n C 1 dX10_blow_70 rfl rfl ?_
          refine G.iconst (v := (1 : Int32)) C dX10_blow_71 (by decide) ?_
          obtain ⟨M_15, eM_15, h⟩ := ltv_ex h
          refine G.putI (k := 24) C k_X10 (sm_67 hE) rfl (by decide) tg_1455 rfl rfl dX10_blow_72 eM_15 ?_
          refine G.iload_n C 0 dX10_blow_75 rfl rfl ?_
          refine G.aload_n C 1 dX10_blow_76 rfl rfl ?_
          refine G.getJ (k := 22) C k_X10 (sm_67 hE) rfl (by decide) tg_1453 dX10_blow_77 ?_
          obtain ⟨v_17, hv_16, h⟩ := bd_ex h
          refine G.callS (rest := [.int v_9]) C (s_X10_ones  hv_16) ⟨tg_1706, tg_103, ok_X10_ones, Nat.le_of_ble_eq_true rfl, Nat.le_of_ble_eq_true rfl⟩ tg_1704 tg_1705 rfl (Nat.le_of_ble_eq_true rfl) dX10_blow_80 ⟨Nat.le_refl 0, Nat.le_refl 0⟩ ?_
          refine G.isub C dX10_blow_83 ?_
          cases h
          exact G.iret C hr dX10_blow_84
      · have h := it_f h hc
        refine G.bipush (v := (-2 : Int32)) C dX10_blow_51 (by decide) ?_
        cases h
        exact G.iret C hr dX10_blow_53
    · have h := it_t h hc
      refine G.iconst (v := (-1 : Int32)) C dX10_blow_36 (by decide) ?_
      cases h
      exact G.iret C hr dX10_blow_37
  · have h := it_f h hc
    refine G.iconst (v := (0 : Int32)) C dX10_blow_26 (by decide) ?_
    cases h
    exact G.iret C hr dX10_blow_27
def bb_X10_blow_67_0 (x1 : Int32) (M : Mm) : Option (Int32 × Mm) := ltv (wI M 67 0 (0 : Int32)) fun M_1 => bd (f_X10_isHollow_67 x1 M_1) fun v_3 => if v_3 = 0 then (bb_X10_blow_67_19 x1 (1 : Int32) M_1) else (bb_X10_blow_67_19 x1 (0 : Int32) M_1)
set_option maxHeartbeats 4000000 in
set_option maxRecDepth 100000 in
theorem gb_X10_blow_67_0  {x1 : Int32} {M : Mm} {v : Int32} {M' : Mm} (hE : Has shM (eH E)) (C : Cx RX10 cX10_blow 3 p (rmD 4) s m args meth c E) (hr : meth.sig.returnType = (some .int)) (h : bb_X10_blow_67_0 x1 M = some (v, M')) : G p l e (rmD 4) s m args below meth c E 3 0 0 (QR below args s E 0 0 (some (.int v)) M') 0 [(0, .ref (eA E 67)), (1, .int x1)] [] M := by
  unfold bb_X10_blow_67_0 at h
  refine G.aload_n C 0 dX10_blow_0 rfl rfl ?_
  refine G.iconst (v := (0 : Int32)) C dX10_blow_1 (by decide) ?_
  obtain ⟨M_1, eM_1, h⟩ := ltv_ex h
  refine G.putI (k := 0) C k_X10 (sm_67 hE) rfl (by decide) tg_1431 rfl rfl dX10_blow_2 eM_1 ?_
  refine G.aload_n C 0 dX10_blow_5 rfl rfl ?_
  refine G.aload_n C 0 dX10_blow_6 rfl rfl ?_
  refine G.iload_n C 1 dX10_blow_7 rfl rfl ?_
  obtain ⟨v_3, hv_2, h⟩ := bd_ex h
  refine G.callV (rest := [.ref (eA E 67)]) C (s_X10_isHollow_67 hE  hv_2) ⟨tg_1722, tg_103, ok_X10_isHollow, Nat.le_of_ble_eq_true rfl, Nat.le_of_ble_eq_true rfl⟩ tg_1719 tg_1721 tg_65 (sm_67 hE) rfl rfl (Nat.le_of_ble_eq_true rfl) dX10_blow_8 ⟨Nat.le_refl 0, Nat.le_refl 0⟩ ?_
  refine G.if_ne (tgt := 18) C dX10_blow_11 (by decide) (fun hc => ?_) (fun hc => ?_)
  · have h := it_f h hc
    refine G.iconst (v := (0 : Int32)) C dX10_blow_18 (by decide) ?_
    exact G.sub [0, 1] rfl (gb_X10_blow_67_19 hE C hr  h)
  · have h := it_t h hc
    refine G.iconst (v := (1 : Int32)) C dX10_blow_14 (by decide) ?_
    refine G.goto (tgt := 19) C dX10_blow_15 (by decide) ?_
    exact G.sub [0, 1] rfl (gb_X10_blow_67_19 hE C hr  h)
def f_X10_blow_67 (x1 : Int32) (M : Mm) : Option (Int32 × Mm) := bb_X10_blow_67_0 x1 M
theorem s_X10_blow_67 {l : Launch} {E : Ev} {x1 : Int32} {M : Mm} {v : Int32} {M' : Mm} (hE : Has shM (eH E)) (h : f_X10_blow_67 x1 M = some (v, M')) : MetA l yX10_blow cX10_blow 3 (some .int) 4 E [.ref (eA E 67), .int x1] M (some (.int v)) M' := by
  refine MetA.of (by decide +kernel) (Nat.le_of_ble_eq_true rfl) ?_
  intro p e s m below meth c C hr hnm
  exact G.sub [0, 1] rfl (gb_X10_blow_67_0 hE C hr  h)
def bb_X10_isFile_0 (x0 : Int32) (x1 : Int32) (x2 : Int32) : Option Int32 := bd (f_X10_in x0 (0 : Int32) (3 : Int32)) fun v_2 => if v_2 = 0 then (some (0 : Int32)) else (bd (f_X10_in x1 (0 : Int32) (7 : Int32)) fun v_4 => if v_4 = 0 then (some (0 : Int32)) else (bd (f_X10_in x2 (1 : Int32) (8 : Int32)) fun v_6 => if v_6 = 0 then (some (0 : Int32)) else (some (1 : Int32))))
set_option maxHeartbeats 4000000 in
set_option maxRecDepth 100000 in
theorem gb_X10_isFile_0 {M : Mm}  {x0 : Int32} {x1 : Int32} {x2 : Int32} {v : Int32} (C : Cx RX10 cX10_isFile 3 p (rmD 2) s m args meth c E) (hr : meth.sig.returnType = (some .boolean)) (h : bb_X10_isFile_0 x0 x1 x2 = some v) : G p l e (rmD 2) s m args below meth c E 3 0 0 (QR below args s E 0 0 (some (.int v)) M) 0 [(0, .int x0), (1, .int x1), (2, .int x2)] [] M := by
  unfold bb_X10_isFile_0 at h
  refine G.iload_n C 0 dX10_isFile_0 rfl rfl ?_
  refine G.iconst (v := (0 : Int32)) C dX10_isFile_1 (by decide) ?_
  refine G.iconst (v := (3 : Int32)) C dX10_isFile_2 (by decide) ?_
  obtain ⟨v_2, hv_1, h⟩ := bd_ex h
  refine G.callS (rest := []) C (s_X10_in  hv_1) ⟨tg_1596, tg_103, ok_X10_in, Nat.le_of_ble_eq_true rfl, Nat.le_of_ble_eq_true rfl⟩ tg_1594 tg_1595 rfl (Nat.le_of_ble_eq_true rfl) dX10_isFile_3 ⟨Nat.le_refl 0, Nat.le_refl 0⟩ ?_
  refine G.if_eq (tgt := 33) C dX10_isFile_6 (by decide) (fun hc => ?_) (fun hc => ?_)
  · have h := it_t h hc
    refine G.iconst (v := (0 : Int32)) C dX10_isFile_33 (by decide) ?_
    cases h
    exact G.zret C hr rfl dX10_isFile_34
  · have h := it_f h hc
    refine G.iload_n C 1 dX10_isFile_9 rfl rfl ?_
    refine G.iconst (v := (0 : Int32)) C dX10_isFile_10 (by decide) ?_
    refine G.bipush (v := (7 : Int32)) C dX10_isFile_11 (by decide) ?_
    obtain ⟨v_4, hv_3, h⟩ := bd_ex h
    refine G.callS (rest := []) C (s_X10_in  hv_3) ⟨tg_1596, tg_103, ok_X10_in, Nat.le_of_ble_eq_true rfl, Nat.le_of_ble_eq_true rfl⟩ tg_1594 tg_1595 rfl (Nat.le_of_ble_eq_true rfl) dX10_isFile_13 ⟨Nat.le_refl 0, Nat.le_refl 0⟩ ?_
    refine G.if_eq (tgt := 33) C dX10_isFile_16 (by decide) (fun hc => ?_) (fun hc => ?_)
    · have h := it_t h hc
      refine G.iconst (v := (0 : Int32)) C dX10_isFile_33 (by decide) ?_
      cases h
      exact G.zret C hr rfl dX10_isFile_34
    · have h := it_f h hc
      refine G.iload_n C 2 dX10_isFile_19 rfl rfl ?_
      refine G.iconst (v := (1 : Int32)) C dX10_isFile_20 (by decide) ?_
      refine G.bipush (v := (8 : Int32)) C dX10_isFile_21 (by decide) ?_
      obtain ⟨v_6, hv_5, h⟩ := bd_ex h
      refine G.callS (rest := []) C (s_X10_in  hv_5) ⟨tg_1596, tg_103, ok_X10_in, Nat.le_of_ble_eq_true rfl, Nat.le_of_ble_eq_true rfl⟩ tg_1594 tg_1595 rfl (Nat.le_of_ble_eq_true rfl) dX10_isFile_23 ⟨Nat.le_refl 0, Nat.le_refl 0⟩ ?_
      refine G.if_eq (tgt := 33) C dX10_isFile_26 (by decide) (fun hc => ?_) (fun hc => ?_)
      · have h := it_t h hc
        refine G.iconst (v := (0 : Int32)) C dX10_isFile_33 (by decide) ?_
        cases h
        exact G.zret C hr rfl dX10_isFile_34
      · have h := it_f h hc
        refine G.iconst (v := (1 : Int32)) C dX10_isFile_29 (by decide) ?_
        refine G.goto (tgt := 34) C dX10_isFile_30 (by decide) ?_
        cases h
        exact G.zret C hr rfl dX10_isFile_34
def f_X10_isFile (x0 : Int32) (x1 : Int32) (x2 : Int32) : Option Int32 := bb_X10_isFile_0 x0 x1 x2
theorem s_X10_isFile {l : Launch} {E : Ev} {x0 : Int32} {x1 : Int32} {x2 : Int32} {M : Mm} {v : Int32} (h : f_X10_isFile x0 x1 x2 = some v) : MetA l yX10_isFile cX10_isFile 3 (some .boolean) 2 E [.int x0, .int x1, .int x2] M (some (.int v)) M := by
  refine MetA.of (by decide +kernel) (Nat.le_of_ble_eq_true rfl) ?_
  intro p e s m below meth c C hr hnm
  exact G.sub [0, 1, 2] rfl (gb_X10_isFile_0 C hr  h)
def bb_X10_files_67_58 (k_3 : Int32 → Int32 → Int32 → Int32 → Mm → Option Mm) (x1 : Int32) (x2 : Int32) (x3 : Int32) (x4 : Int32) (x5 : Int32) (s0 : Int32) (M : Mm) : Option Mm := ltv (wJ M 67 22 ((M.2 67 22) &&& ((shL (1 : Int64) (((8 : Int32) * s0) + x5)) ^^^ (-1 : Int64)))) fun M_1 => ltv (x4 + (1 : Int32)) fun x4_2 => k_3 x1 x2 x3 x4_2 M_1
set_option maxHeartbeats 4000000 in
set_option maxRecDepth 100000 in
theorem gb_X10_files_67_58  {k_3 : Int32 → Int32 → Int32 → Int32 → Mm → Option Mm} {x1 : Int32} {x2 : Int32} {x3 : Int32} {x4 : Int32} {x5 : Int32} {s0 : Int32} {M : Mm} {M' : Mm} (hE : Has shM (eH E)) (C : Cx RX10 cX10_files 7 p (rmD 1) s m args meth c E) (hr : meth.sig.returnType = none) (hk_3 : ∀ (x1 : Int32) (x2 : Int32) (x3 : Int32) (x4 : Int32) (M : Mm), k_3 x1 x2 x3 x4 M = some M' → G p l e (rmD 1) s m args below meth c E 7 0 0 (QR below args s E 0 0 none M') 3 [(0, .ref (eA E 67)), (1, .int x1), (2, .int x2), (3, .int x3), (4, .int x4)] [] M) (h : bb_X10_files_67_58 k_3 x1 x2 x3 x4 x5 s0 M = some M') : G p l e (rmD 1) s m args below meth c E 7 0 0 (QR below args s E 0 0 none M') 58 [(0, .ref (eA E 67)), (1, .int x1), (2, .int x2), (3, .int x3), (4, .int x4), (5, .int x5)] [.int s0] M := by
  unfold bb_X10_files_67_58 at h
  refine G.istore (L' := [(6, .int s0), (0, .ref (eA E 67)), (1, .int x1), (2, .int x2), (3, .int x3), (4, .int x4), (5, .int x5)]) C dX10_files_58 rfl (by decide) rfl ?_
  refine G.aload_n C 1 dX10_files_60 rfl rfl ?_
  refine G.dup C dX10_files_61 rfl ?_
  refine G.getJ (k := 22) C k_X10 (sm_67 hE) rfl (by decide) tg_1453 dX10_files_62 ?_
  refine G.lconst (v := (1 : Int64)) C dX10_files_65 (by decide) ?_
  refine G.bipush (v := (8 : Int32)) C dX10_files_66 (by decide) ?_
  refine G.iload C 0 dX10_files_68 rfl ?_
  refine G.imul C dX10_files_70 ?_
  refine G.iload C 6 dX10_files_71 rfl ?_
  refine G.iadd C dX10_files_73 ?_
  refine G.lshl (v := shL (1 : Int64) (((8 : Int32) * s0) + x5)) C dX10_files_74 rfl ?_
  refine G.ldc2 C tg_1655 dX10_files_75 ?_
  refine G.lxor C dX10_files_78 ?_
  refine G.land C dX10_files_79 ?_
  obtain ⟨M_1, eM_1, h⟩ := ltv_ex h
  refine G.putJ (k := 22) C k_X10 (sm_67 hE) rfl (by decide) tg_1453 rfl rfl dX10_files_80 eM_1 ?_
  obtain ⟨x4_2, ex4_2, h⟩ := ltv_ex h
  refine G.iinc (L' := [(4, .int x4_2), (6, .int s0), (0, .ref (eA E 67)), (1, .int x1), (2, .int x2), (3, .int x3), (5, .int x5)]) C 5 dX10_files_83 rfl (ex4_2.trans rfl) (by decide) rfl ?_
  refine G.goto (tgt := 3) C dX10_files_86 (by decide) ?_
  exact G.sub [2, 3, 4, 5, 0] rfl (hk_3 _ _ _ _ _  h)
def bb_X10_files_67_32 (k_3 : Int32 → Int32 → Int32 → Int32 → Mm → Option Mm) (x1 : Int32) (x2 : Int32) (x3 : Int32) (x4 : Int32) (s0 : Int32) (M : Mm) : Option Mm := if x1 = (2 : Int32) then (bb_X10_files_67_58 k_3 x1 x2 x3 x4 s0 x4 M) else (if x1 = (3 : Int32) then (bb_X10_files_67_58 k_3 x1 x2 x3 x4 s0 ((7 : Int32) - x4) M) else (bb_X10_files_67_58 k_3 x1 x2 x3 x4 s0 x2 M))
set_option maxHeartbeats 4000000 in
set_option maxRecDepth 100000 in
theorem gb_X10_files_67_32  {k_3 : Int32 → Int32 → Int32 → Int32 → Mm → Option Mm} {x1 : Int32} {x2 : Int32} {x3 : Int32} {x4 : Int32} {s0 : Int32} {M : Mm} {M' : Mm} (hE : Has shM (eH E)) (C : Cx RX10 cX10_files 7 p (rmD 1) s m args meth c E) (hr : meth.sig.returnType = none) (hk_3 : ∀ (x1 : Int32) (x2 : Int32) (x3 : Int32) (x4 : Int32) (M : Mm), k_3 x1 x2 x3 x4 M = some M' → G p l e (rmD 1) s m args below meth c E 7 0 0 (QR below args s E 0 0 none M') 3 [(0, .ref (eA E 67)), (1, .int x1), (2, .int x2), (3, .int x3), (4, .int x4)] [] M) (h : bb_X10_files_67_32 k_3 x1 x2 x3 x4 s0 M = some M') : G p l e (rmD 1) s m args below meth c E 7 0 0 (QR below args s E 0 0 none M') 32 [(0, .ref (eA E 67)), (1, .int x1), (2, .int x2), (3, .int x3), (4, .int x4)] [.int s0] M := by
  unfold bb_X10_files_67_32 at h
  refine G.istore (L' := [(5, .int s0), (0, .ref (eA E 67)), (1, .int x1), (2, .int x2), (3, .int x3), (4, .int x4)]) C dX10_files_32 rfl (by decide) rfl ?_
  refine G.iload_n C 2 dX10_files_34 rfl rfl ?_
  refine G.iconst (v := (2 : Int32)) C dX10_files_35 (by decide) ?_
  refine G.icmp_ne (tgt := 44) C dX10_files_36 (by decide) (fun hc => ?_) (fun hc => ?_)
  · have h := it_f h hc
    refine G.iload_n C 2 dX10_files_44 rfl rfl ?_
    refine G.iconst (v := (3 : Int32)) C dX10_files_45 (by decide) ?_
    refine G.icmp_ne (tgt := 57) C dX10_files_46 (by decide) (fun hc => ?_) (fun hc => ?_)
    · have h := it_f h hc
      refine G.iload_n C 3 dX10_files_57 rfl rfl ?_
      exact G.sub [1, 2, 3, 4, 5, 0] rfl (gb_X10_files_67_58 hE C hr hk_3  h)
    · have h := it_t h hc
      refine G.bipush (v := (7 : Int32)) C dX10_files_49 (by decide) ?_
      refine G.iload C 5 dX10_files_51 rfl ?_
      refine G.isub C dX10_files_53 ?_
      refine G.goto (tgt := 58) C dX10_files_54 (by decide) ?_
      exact G.sub [1, 2, 3, 4, 5, 0] rfl (gb_X10_files_67_58 hE C hr hk_3  h)
  · have h := it_t h hc
    refine G.iload C 5 dX10_files_39 rfl ?_
    refine G.goto (tgt := 58) C dX10_files_41 (by decide) ?_
    exact G.sub [1, 2, 3, 4, 5, 0] rfl (gb_X10_files_67_58 hE C hr hk_3  h)
def bb_X10_files_67_3 (k_3 : Int32 → Int32 → Int32 → Int32 → Mm → Option Mm) (x1 : Int32) (x2 : Int32) (x3 : Int32) (x4 : Int32) (M : Mm) : Option Mm := if x3 ≤ x4 then (some M) else (if x1 = 0 then (bb_X10_files_67_32 k_3 x1 x2 x3 x4 x4 M) else (if x1 = (1 : Int32) then (bb_X10_files_67_32 k_3 x1 x2 x3 x4 ((7 : Int32) - x4) M) else (bb_X10_files_67_32 k_3 x1 x2 x3 x4 x2 M)))
set_option maxHeartbeats 4000000 in
set_option maxRecDepth 100000 in
theorem gb_X10_files_67_3  {k_3 : Int32 → Int32 → Int32 → Int32 → Mm → Option Mm} {x1 : Int32} {x2 : Int32} {x3 : Int32} {x4 : Int32} {M : Mm} {M' : Mm} (hE : Has shM (eH E)) (C : Cx RX10 cX10_files 7 p (rmD 1) s m args meth c E) (hr : meth.sig.returnType = none) (hk_3 : ∀ (x1 : Int32) (x2 : Int32) (x3 : Int32) (x4 : Int32) (M : Mm), k_3 x1 x2 x3 x4 M = some M' → G p l e (rmD 1) s m args below meth c E 7 0 0 (QR below args s E 0 0 none M') 3 [(0, .ref (eA E 67)), (1, .int x1), (2, .int x2), (3, .int x3), (4, .int x4)] [] M) (h : bb_X10_files_67_3 k_3 x1 x2 x3 x4 M = some M') : G p l e (rmD 1) s m args below meth c E 7 0 0 (QR below args s E 0 0 none M') 3 [(0, .ref (eA E 67)), (1, .int x1), (2, .int x2), (3, .int x3), (4, .int x4)] [] M := by
  unfold bb_X10_files_67_3 at h
  refine G.iload C 4 dX10_files_3 rfl ?_
  refine G.iload_n C 3 dX10_files_5 rfl rfl ?_
  refine G.icmp_ge (tgt := 89) C dX10_files_6 (by decide) (fun hc => ?_) (fun hc => ?_)
  · have h := it_t h hc
    cases h
    exact G.vret C hr dX10_files_89
  · have h := it_f h hc
    refine G.iload_n C 1 dX10_files_9 rfl rfl ?_
    refine G.if_ne (tgt := 18) C dX10_files_10 (by decide) (fun hc => ?_) (fun hc => ?_)
    · have h := it_f h hc
      refine G.iload_n C 1 dX10_files_18 rfl rfl ?_
      refine G.iconst (v := (1 : Int32)) C dX10_files_19 (by decide) ?_
      refine G.icmp_ne (tgt := 31) C dX10_files_20 (by decide) (fun hc => ?_) (fun hc => ?_)
      · have h := it_f h hc
        refine G.iload_n C 2 dX10_files_31 rfl rfl ?_
        exact G.sub [0, 1, 2, 3, 4] rfl (gb_X10_files_67_32 hE C hr hk_3  h)
      · have h := it_t h hc
        refine G.bipush (v := (7 : Int32)) C dX10_files_23 (by decide) ?_
        refine G.iload C 4 dX10_files_25 rfl ?_
        refine G.isub C dX10_files_27 ?_
        refine G.goto (tgt := 32) C dX10_files_28 (by decide) ?_
        exact G.sub [0, 1, 2, 3, 4] rfl (gb_X10_files_67_32 hE C hr hk_3  h)
    · have h := it_t h hc
      refine G.iload C 4 dX10_files_13 rfl ?_
      refine G.goto (tgt := 32) C dX10_files_15 (by decide) ?_
      exact G.sub [0, 1, 2, 3, 4] rfl (gb_X10_files_67_32 hE C hr hk_3  h)
def b_X10_files_67_3 : Nat → Int32 → Int32 → Int32 → Int32 → Mm → Option Mm
  | 0, _, _, _, _, _ => none
  | n + 1, x1, x2, x3, x4, M => bb_X10_files_67_3 (b_X10_files_67_3 n) x1 x2 x3 x4 M
set_option maxHeartbeats 4000000 in
theorem g_X10_files_67_3  {n : Nat} {x1 : Int32} {x2 : Int32} {x3 : Int32} {x4 : Int32} {M : Mm} {M' : Mm} (hE : Has shM (eH E)) (C : Cx RX10 cX10_files 7 p (rmD 1) s m args meth c E) (hr : meth.sig.returnType = none) (h : b_X10_files_67_3 n x1 x2 x3 x4 M = some M') : G p l e (rmD 1) s m args below meth c E 7 0 0 (QR below args s E 0 0 none M') 3 [(0, .ref (eA E 67)), (1, .int x1), (2, .int x2), (3, .int x3), (4, .int x4)] [] M := by
  induction n generalizing x1 x2 x3 x4 M with
  | zero => cases h
  | succ n ih => exact gb_X10_files_67_3 hE C hr (fun _ _ _ _ _ => ih)  h
def bb_X10_files_67_0 (x1 : Int32) (x2 : Int32) (x3 : Int32) (M : Mm) : Option Mm := b_X10_files_67_3 FU x1 x2 x3 (0 : Int32) M
set_option maxHeartbeats 4000000 in
set_option maxRecDepth 100000 in
theorem gb_X10_files_67_0  {x1 : Int32} {x2 : Int32} {x3 : Int32} {M : Mm} {M' : Mm} (hE : Has shM (eH E)) (C : Cx RX10 cX10_files 7 p (rmD 1) s m args meth c E) (hr : meth.sig.returnType = none) (h : bb_X10_files_67_0 x1 x2 x3 M = some M') : G p l e (rmD 1) s m args below meth c E 7 0 0 (QR below args s E 0 0 none M') 0 [(0, .ref (eA E 67)), (1, .int x1), (2, .int x2), (3, .int x3)] [] M := by
  unfold bb_X10_files_67_0 at h
  refine G.iconst (v := (0 : Int32)) C dX10_files_0 (by decide) ?_
  refine G.istore (L' := [(4, .int (0 : Int32)), (0, .ref (eA E 67)), (1, .int x1), (2, .int x2), (3, .int x3)]) C dX10_files_1 rfl (by decide) rfl ?_
  exact G.sub [1, 2, 3, 4, 0] rfl (g_X10_files_67_3 hE C hr  h)
def f_X10_files_67 (x1 : Int32) (x2 : Int32) (x3 : Int32) (M : Mm) : Option Mm := bb_X10_files_67_0 x1 x2 x3 M
theorem s_X10_files_67 {l : Launch} {E : Ev} {x1 : Int32} {x2 : Int32} {x3 : Int32} {M : Mm} {M' : Mm} (hE : Has shM (eH E)) (h : f_X10_files_67 x1 x2 x3 M = some M') : MetA l yX10_files cX10_files 7 none 1 E [.ref (eA E 67), .int x1, .int x2, .int x3] M none M' := by
  refine MetA.of (by decide +kernel) (Nat.le_of_ble_eq_true rfl) ?_
  intro p e s m below meth c C hr hnm
  exact G.sub [0, 1, 2, 3] rfl (gb_X10_files_67_0 hE C hr  h)
def bb_X10_file_67_20 (x1 : Int32) (x2 : Int32) (x3 : Int32) (s1 : Int32) (M : Mm) : Option (Int32 × Mm) := bd2 (f_X10_bad_67 s1 (1 : Int32) M) fun v_6 M_5 => if v_6 = 0 then (if (M_5.1 67 23) = (-1 : Int32) then (some ((-1 : Int32), M_5)) else (bd (f_X10_ones (M_5.2 67 22)) fun v_8 => bd (f_X10_files_67 x1 x2 x3 M_5) fun M_10 => bd (f_X10_ones (M_10.2 67 22)) fun v_12 => some (v_8 - v_12, M_10))) else (some ((0 : Int32), M_5))
set_option maxHeartbeats 4000000 in
set_option maxRecDepth 100000 in
theorem gb_X10_file_67_20  {x1 : Int32} {x2 : Int32} {x3 : Int32} {s1 : Int32} {M : Mm} {v : Int32} {M' : Mm} (hE : Has shM (eH E)) (C : Cx RX10 cX10_file 5 p (rmD 3) s m args meth c E) (hr : meth.sig.returnType = (some .int)) (h : bb_X10_file_67_20 x1 x2 x3 s1 M = some (v, M')) : G p l e (rmD 3) s m args below meth c E 5 0 0 (QR below args s E 0 0 (some (.int v)) M') 20 [(0, .ref (eA E 67)), (1, .int x1), (2, .int x2), (3, .int x3)] [.int s1, .ref (eA E 67)] M := by
  unfold bb_X10_file_67_20 at h
  refine G.iconst (v := (1 : Int32)) C dX10_file_20 (by decide) ?_
  obtain ⟨v_6, M_5, hv_4, h⟩ := bd2_ex h
  refine G.callV (rest := []) C (s_X10_bad_67 hE  hv_4) ⟨tg_1600, tg_103, ok_X10_bad, Nat.le_of_ble_eq_true rfl, Nat.le_of_ble_eq_true rfl⟩ tg_1597 tg_1599 tg_46 (sm_67 hE) rfl rfl (Nat.le_of_ble_eq_true rfl) dX10_file_21 ⟨Nat.le_refl 0, Nat.le_refl 0⟩ ?_
  refine G.if_eq (tgt := 29) C dX10_file_24 (by decide) (fun hc => ?_) (fun hc => ?_)
  · have h := it_t h hc
    refine G.aload_n C 0 dX10_file_29 rfl rfl ?_
    refine G.getI (k := 23) C k_X10 (sm_67 hE) rfl (by decide) tg_1454 dX10_file_30 ?_
    refine G.iconst (v := (-1 : Int32)) C dX10_file_33 (by decide) ?_
    refine G.icmp_ne (tgt := 39) C dX10_file_34 (by decide) (fun hc => ?_) (fun hc => ?_)
    · have h := it_f h hc
      refine G.aload_n C 0 dX10_file_39 rfl rfl ?_
      refine G.getJ (k := 22) C k_X10 (sm_67 hE) rfl (by decide) tg_1453 dX10_file_40 ?_
      obtain ⟨v_8, hv_7, h⟩ := bd_ex h
      refine G.callS (rest := []) C (s_X10_ones  hv_7) ⟨tg_1706, tg_103, ok_X10_ones, Nat.le_of_ble_eq_true rfl, Nat.le_of_ble_eq_true rfl⟩ tg_1704 tg_1705 rfl (Nat.le_of_ble_eq_true rfl) dX10_file_43 ⟨Nat.le_refl 0, Nat.le_refl 0⟩ ?_
      refine G.istore (L' := [(4, .int v_8), (0, .ref (eA E 67)), (1, .int x1), (2, .int x2), (3, .int x3)]) C dX10_file_46 rfl (by decide) rfl ?_
      refine G.aload_n C 1 dX10_file_48 rfl rfl ?_
      refine G.iload_n C 2 dX10_file_49 rfl rfl ?_
      refine G.iload_n C 3 dX10_file_50 rfl rfl ?_
      refine G.iload_n C 4 dX10_file_51 rfl rfl ?_
      obtain ⟨M_10, hv_9, h⟩ := bd_ex h
      refine G.callV (rest := []) C (s_X10_files_67 hE  hv_9) ⟨tg_1805, tg_103, ok_X10_files, Nat.le_of_ble_eq_true rfl, Nat.le_of_ble_eq_true rfl⟩ tg_1802 tg_1804 tg_72 (sm_67 hE) rfl rfl (Nat.le_of_ble_eq_true rfl) dX10_file_52 ⟨Nat.le_refl 0, Nat.le_refl 0⟩ ?_
      refine G.iload C 0 dX10_file_55 rfl ?_
      refine G.aload_n C 1 dX10_file_57 rfl rfl ?_
      refine G.getJ (k := 22) C k_X10 (sm_67 hE) rfl (by decide) tg_1453 dX10_file_58 ?_
      obtain ⟨v_12, hv_11, h⟩ := bd_ex h
      refine G.callS (rest := [.int v_8]) C (s_X10_ones  hv_11) ⟨tg_1706, tg_103, ok_X10_ones, Nat.le_of_ble_eq_true rfl, Nat.le_of_ble_eq_true rfl⟩ tg_1704 tg_1705 rfl (Nat.le_of_ble_eq_true rfl) dX10_file_61 ⟨Nat.le_refl 0, Nat.le_refl 0⟩ ?_
      refine G.isub C dX10_file_64 ?_
      cases h
      exact G.iret C hr dX10_file_65
    · have h := it_t h hc
      refine G.iconst (v := (-1 : Int32)) C dX10_file_37 (by decide) ?_
      cases h
      exact G.iret C hr dX10_file_38
  · have h := it_f h hc
    refine G.iconst (v := (0 : Int32)) C dX10_file_27 (by decide) ?_
    cases h
    exact G.iret C hr dX10_file_28
def bb_X10_file_67_0 (x1 : Int32) (x2 : Int32) (x3 : Int32) (M : Mm) : Option (Int32 × Mm) := ltv (wI M 67 0 (0 : Int32)) fun M_1 => bd (f_X10_isFile x1 x2 x3) fun v_3 => if v_3 = 0 then (bb_X10_file_67_20 x1 x2 x3 (1 : Int32) M_1) else (bb_X10_file_67_20 x1 x2 x3 (0 : Int32) M_1)
set_option maxHeartbeats 4000000 in
set_option maxRecDepth 100000 in
theorem gb_X10_file_67_0  {x1 : Int32} {x2 : Int32} {x3 : Int32} {M : Mm} {v : Int32} {M' : Mm} (hE : Has shM (eH E)) (C : Cx RX10 cX10_file 5 p (rmD 3) s m args meth c E) (hr : meth.sig.returnType = (some .int)) (h : bb_X10_file_67_0 x1 x2 x3 M = some (v, M')) : G p l e (rmD 3) s m args below meth c E 5 0 0 (QR below args s E 0 0 (some (.int v)) M') 0 [(0, .ref (eA E 67)), (1, .int x1), (2, .int x2), (3, .int x3)] [] M := by
  unfold bb_X10_file_67_0 at h
  refine G.aload_n C 0 dX10_file_0 rfl rfl ?_
  refine G.iconst (v := (0 : Int32)) C dX10_file_1 (by decide) ?_
  obtain ⟨M_1, eM_1, h⟩ := ltv_ex h
  refine G.putI (k := 0) C k_X10 (sm_67 hE) rfl (by decide) tg_1431 rfl rfl dX10_file_2 eM_1 ?_
  refine G.aload_n C 0 dX10_file_5 rfl rfl ?_
  refine G.iload_n C 1 dX10_file_6 rfl rfl ?_
  refine G.iload_n C 2 dX10_file_7 rfl rfl ?_
  refine G.iload_n C 3 dX10_file_8 rfl rfl ?_
  obtain ⟨v_3, hv_2, h⟩ := bd_ex h
  refine G.callS (rest := [.ref (eA E 67)]) C (s_X10_isFile  hv_2) ⟨tg_1801, tg_103, ok_X10_isFile, Nat.le_of_ble_eq_true rfl, Nat.le_of_ble_eq_true rfl⟩ tg_1799 tg_1800 rfl (Nat.le_of_ble_eq_true rfl) dX10_file_9 ⟨Nat.le_refl 0, Nat.le_refl 0⟩ ?_
  refine G.if_ne (tgt := 19) C dX10_file_12 (by decide) (fun hc => ?_) (fun hc => ?_)
  · have h := it_f h hc
    refine G.iconst (v := (0 : Int32)) C dX10_file_19 (by decide) ?_
    exact G.sub [0, 1, 2, 3] rfl (gb_X10_file_67_20 hE C hr  h)
  · have h := it_t h hc
    refine G.iconst (v := (1 : Int32)) C dX10_file_15 (by decide) ?_
    refine G.goto (tgt := 20) C dX10_file_16 (by decide) ?_
    exact G.sub [0, 1, 2, 3] rfl (gb_X10_file_67_20 hE C hr  h)
def f_X10_file_67 (x1 : Int32) (x2 : Int32) (x3 : Int32) (M : Mm) : Option (Int32 × Mm) := bb_X10_file_67_0 x1 x2 x3 M
theorem s_X10_file_67 {l : Launch} {E : Ev} {x1 : Int32} {x2 : Int32} {x3 : Int32} {M : Mm} {v : Int32} {M' : Mm} (hE : Has shM (eH E)) (h : f_X10_file_67 x1 x2 x3 M = some (v, M')) : MetA l yX10_file cX10_file 5 (some .int) 3 E [.ref (eA E 67), .int x1, .int x2, .int x3] M (some (.int v)) M' := by
  refine MetA.of (by decide +kernel) (Nat.le_of_ble_eq_true rfl) ?_
  intro p e s m below meth c C hr hnm
  exact G.sub [0, 1, 2, 3] rfl (gb_X10_file_67_0 hE C hr  h)
def bb_X10_steel_67_0  (M : Mm) : Option (Int64 × Mm) := ltv (wI M 67 0 (0 : Int32)) fun M_1 => if (M_1.1 67 23) = (-1 : Int32) then (some ((0 : Int64), M_1)) else (some (M_1.2 67 22, M_1))
set_option maxHeartbeats 4000000 in
set_option maxRecDepth 100000 in
theorem gb_X10_steel_67_0   {M : Mm} {v : Int64} {M' : Mm} (hE : Has shM (eH E)) (C : Cx RX10 cX10_steel 1 p (rmD 1) s m args meth c E) (hr : meth.sig.returnType = (some .long)) (h : bb_X10_steel_67_0 M = some (v, M')) : G p l e (rmD 1) s m args below meth c E 1 0 0 (QR below args s E 0 0 (some (.long v)) M') 0 [(0, .ref (eA E 67))] [] M := by
  unfold bb_X10_steel_67_0 at h
  refine G.aload_n C 0 dX10_steel_0 rfl rfl ?_
  refine G.iconst (v := (0 : Int32)) C dX10_steel_1 (by decide) ?_
  obtain ⟨M_1, eM_1, h⟩ := ltv_ex h
  refine G.putI (k := 0) C k_X10 (sm_67 hE) rfl (by decide) tg_1431 rfl rfl dX10_steel_2 eM_1 ?_
  refine G.aload_n C 0 dX10_steel_5 rfl rfl ?_
  refine G.getI (k := 23) C k_X10 (sm_67 hE) rfl (by decide) tg_1454 dX10_steel_6 ?_
  refine G.iconst (v := (-1 : Int32)) C dX10_steel_9 (by decide) ?_
  refine G.icmp_ne (tgt := 17) C dX10_steel_10 (by decide) (fun hc => ?_) (fun hc => ?_)
  · have h := it_f h hc
    refine G.aload_n C 0 dX10_steel_17 rfl rfl ?_
    refine G.getJ (k := 22) C k_X10 (sm_67 hE) rfl (by decide) tg_1453 dX10_steel_18 ?_
    cases h
    exact G.lret C hr dX10_steel_21
  · have h := it_t h hc
    refine G.lconst (v := (0 : Int64)) C dX10_steel_13 (by decide) ?_
    refine G.goto (tgt := 21) C dX10_steel_14 (by decide) ?_
    cases h
    exact G.lret C hr dX10_steel_21
def f_X10_steel_67  (M : Mm) : Option (Int64 × Mm) := bb_X10_steel_67_0 M
theorem s_X10_steel_67 {l : Launch} {E : Ev}  {M : Mm} {v : Int64} {M' : Mm} (hE : Has shM (eH E)) (h : f_X10_steel_67 M = some (v, M')) : MetA l yX10_steel cX10_steel 1 (some .long) 1 E [.ref (eA E 67)] M (some (.long v)) M' := by
  refine MetA.of (by decide +kernel) (Nat.le_of_ble_eq_true rfl) ?_
  intro p e s m below meth c C hr hnm
  exact G.sub [0] rfl (gb_X10_steel_67_0 hE C hr  h)
def bb_X10_isGood_67_0 (x1 : Int32) (M : Mm) : Option Int32 := gd (inb x1 10) (if ((M.2 72 (ix x1)) &&& ((M.2 67 22) ^^^ (-1 : Int64))) = (0 : Int64) then (some (1 : Int32)) else (some (0 : Int32)))
set_option maxHeartbeats 4000000 in
set_option maxRecDepth 100000 in
theorem gb_X10_isGood_67_0  {x1 : Int32} {M : Mm} {v : Int32} (hE : Has shM (eH E)) (C : Cx RX10 cX10_isGood 2 p (rmD 1) s m args meth c E) (hr : meth.sig.returnType = (some .boolean)) (h : bb_X10_isGood_67_0 x1 M = some v) : G p l e (rmD 1) s m args below meth c E 2 0 0 (QR below args s E 0 0 (some (.int v)) M) 0 [(0, .ref (eA E 67)), (1, .int x1)] [] M := by
  unfold bb_X10_isGood_67_0 at h
  refine G.aload_n C 0 dX10_isGood_0 rfl rfl ?_
  refine G.getR (k := 12) C k_X10 (sm_67 hE) rfl (by decide) tg_1443 dX10_isGood_1 ?_
  refine G.iload_n C 1 dX10_isGood_4 rfl rfl ?_
  obtain ⟨hg_1, h⟩ := gd_ex h
  refine G.aJ (j := ix x1) C (sm_72 hE) hg_1 rfl dX10_isGood_5 ?_
  refine G.aload_n C 0 dX10_isGood_6 rfl rfl ?_
  refine G.getJ (k := 22) C k_X10 (sm_67 hE) rfl (by decide) tg_1453 dX10_isGood_7 ?_
  refine G.ldc2 C tg_1655 dX10_isGood_10 ?_
  refine G.lxor C dX10_isGood_13 ?_
  refine G.land C dX10_isGood_14 ?_
  refine G.lconst (v := (0 : Int64)) C dX10_isGood_15 (by decide) ?_
  refine G.lcmp C dX10_isGood_16 (G.if_ne (tgt := 24) C dX10_isGood_17 (by decide) (fun hc => ?_) (fun hc => ?_))
  · have h := it_f h (lgc_ne.mp hc)
    refine G.iconst (v := (0 : Int32)) C dX10_isGood_24 (by decide) ?_
    cases h
    exact G.zret C hr rfl dX10_isGood_25
  · have h := it_t h (lgc_eq.mp hc)
    refine G.iconst (v := (1 : Int32)) C dX10_isGood_20 (by decide) ?_
    refine G.goto (tgt := 25) C dX10_isGood_21 (by decide) ?_
    cases h
    exact G.zret C hr rfl dX10_isGood_25
def f_X10_isGood_67 (x1 : Int32) (M : Mm) : Option Int32 := bb_X10_isGood_67_0 x1 M
theorem s_X10_isGood_67 {l : Launch} {E : Ev} {x1 : Int32} {M : Mm} {v : Int32} (hE : Has shM (eH E)) (h : f_X10_isGood_67 x1 M = some v) : MetA l yX10_isGood cX10_isGood 2 (some .boolean) 1 E [.ref (eA E 67), .int x1] M (some (.int v)) M := by
  refine MetA.of (by decide +kernel) (Nat.le_of_ble_eq_true rfl) ?_
  intro p e s m below meth c C hr hnm
  exact G.sub [0, 1] rfl (gb_X10_isGood_67_0 hE C hr  h)
def bb_X10_punch_67_20 (x1 : Int32) (s1 : Int32) (M : Mm) : Option (Int32 × Mm) := bd2 (f_X10_bad_67 s1 (1 : Int32) M) fun v_6 M_5 => if v_6 = 0 then (if (M_5.1 67 23) = (-1 : Int32) then (some ((-1 : Int32), M_5)) else (if x1 = (2 : Int32) then (some (M_5.1 67 24, M_5)) else (if x1 = 0 then (bd (f_X10_isGood_67 (M_5.1 67 23) M_5) fun v_9 => if v_9 = 0 then (some ((0 : Int32), M_5)) else (some ((1 : Int32), M_5))) else (gd (inb (M_5.1 67 23) 10) (if (M_5.2 67 22) = (M_5.2 72 (ix (M_5.1 67 23))) then (some ((1 : Int32), M_5)) else (some ((0 : Int32), M_5))))))) else (some ((0 : Int32), M_5))
set_option maxHeartbeats 4000000 in
set_option maxRecDepth 100000 in
theorem gb_X10_punch_67_20  {x1 : Int32} {s1 : Int32} {M : Mm} {v : Int32} {M' : Mm} (hE : Has shM (eH E)) (C : Cx RX10 cX10_punch 2 p (rmD 2) s m args meth c E) (hr : meth.sig.returnType = (some .int)) (h : bb_X10_punch_67_20 x1 s1 M = some (v, M')) : G p l e (rmD 2) s m args below meth c E 2 0 0 (QR below args s E 0 0 (some (.int v)) M') 20 [(0, .ref (eA E 67)), (1, .int x1)] [.int s1, .ref (eA E 67)] M := by
  unfold bb_X10_punch_67_20 at h
  refine G.iconst (v := (1 : Int32)) C dX10_punch_20 (by decide) ?_
  obtain ⟨v_6, M_5, hv_4, h⟩ := bd2_ex h
  refine G.callV (rest := []) C (s_X10_bad_67 hE  hv_4) ⟨tg_1600, tg_103, ok_X10_bad, Nat.le_of_ble_eq_true rfl, Nat.le_of_ble_eq_true rfl⟩ tg_1597 tg_1599 tg_46 (sm_67 hE) rfl rfl (Nat.le_of_ble_eq_true rfl) dX10_punch_21 ⟨Nat.le_refl 0, Nat.le_refl 0⟩ ?_
  refine G.if_eq (tgt := 29) C dX10_punch_24 (by decide) (fun hc => ?_) (fun hc => ?_)
  · have h := it_t h hc
    refine G.aload_n C 0 dX10_punch_29 rfl rfl ?_
    refine G.getI (k := 23) C k_X10 (sm_67 hE) rfl (by decide) tg_1454 dX10_punch_30 ?_
    refine G.iconst (v := (-1 : Int32)) C dX10_punch_33 (by decide) ?_
    refine G.icmp_ne (tgt := 39) C dX10_punch_34 (by decide) (fun hc => ?_) (fun hc => ?_)
    · have h := it_f h hc
      refine G.iload_n C 1 dX10_punch_39 rfl rfl ?_
      refine G.iconst (v := (2 : Int32)) C dX10_punch_40 (by decide) ?_
      refine G.icmp_ne (tgt := 49) C dX10_punch_41 (by decide) (fun hc => ?_) (fun hc => ?_)
      · have h := it_f h hc
        refine G.iload_n C 1 dX10_punch_49 rfl rfl ?_
        refine G.if_ne (tgt := 67) C dX10_punch_50 (by decide) (fun hc => ?_) (fun hc => ?_)
        · have h := it_f h hc
          refine G.aload_n C 0 dX10_punch_67 rfl rfl ?_
          refine G.getJ (k := 22) C k_X10 (sm_67 hE) rfl (by decide) tg_1453 dX10_punch_68 ?_
          refine G.aload_n C 0 dX10_punch_71 rfl rfl ?_
          refine G.getR (k := 12) C k_X10 (sm_67 hE) rfl (by decide) tg_1443 dX10_punch_72 ?_
          refine G.aload_n C 0 dX10_punch_75 rfl rfl ?_
          refine G.getI (k := 23) C k_X10 (sm_67 hE) rfl (by decide) tg_1454 dX10_punch_76 ?_
          obtain ⟨hg_7, h⟩ := gd_ex h
          refine G.aJ (j := ix (M_5.1 67 23)) C (sm_72 hE) hg_7 rfl dX10_punch_79 ?_
          refine G.lcmp C dX10_punch_80 (G.if_ne (tgt := 88) C dX10_punch_81 (by decide) (fun hc => ?_) (fun hc => ?_))
          · have h := it_f h (lgc_ne.mp hc)
            refine G.iconst (v := (0 : Int32)) C dX10_punch_88 (by decide) ?_
            cases h
            exact G.iret C hr dX10_punch_89
          · have h := it_t h (lgc_eq.mp hc)
            refine G.iconst (v := (1 : Int32)) C dX10_punch_84 (by decide) ?_
            refine G.goto (tgt := 89) C dX10_punch_85 (by decide) ?_
            cases h
            exact G.iret C hr dX10_punch_89
        · have h := it_t h hc
          refine G.aload_n C 0 dX10_punch_53 rfl rfl ?_
          refine G.aload_n C 0 dX10_punch_54 rfl rfl ?_
          refine G.getI (k := 23) C k_X10 (sm_67 hE) rfl (by decide) tg_1454 dX10_punch_55 ?_
          obtain ⟨v_9, hv_8, h⟩ := bd_ex h
          refine G.callV (rest := []) C (s_X10_isGood_67 hE  hv_8) ⟨tg_1817, tg_103, ok_X10_isGood, Nat.le_of_ble_eq_true rfl, Nat.le_of_ble_eq_true rfl⟩ tg_1814 tg_1816 tg_73 (sm_67 hE) rfl rfl (Nat.le_of_ble_eq_true rfl) dX10_punch_58 ⟨Nat.le_refl 0, Nat.le_refl 0⟩ ?_
          refine G.if_eq (tgt := 88) C dX10_punch_61 (by decide) (fun hc => ?_) (fun hc => ?_)
          · have h := it_t h hc
            refine G.iconst (v := (0 : Int32)) C dX10_punch_88 (by decide) ?_
            cases h
            exact G.iret C hr dX10_punch_89
          · have h := it_f h hc
            refine G.goto (tgt := 84) C dX10_punch_64 (by decide) ?_
            refine G.iconst (v := (1 : Int32)) C dX10_punch_84 (by decide) ?_
            refine G.goto (tgt := 89) C dX10_punch_85 (by decide) ?_
            cases h
            exact G.iret C hr dX10_punch_89
      · have h := it_t h hc
        refine G.aload_n C 0 dX10_punch_44 rfl rfl ?_
        refine G.getI (k := 24) C k_X10 (sm_67 hE) rfl (by decide) tg_1455 dX10_punch_45 ?_
        cases h
        exact G.iret C hr dX10_punch_48
    · have h := it_t h hc
      refine G.iconst (v := (-1 : Int32)) C dX10_punch_37 (by decide) ?_
      cases h
      exact G.iret C hr dX10_punch_38
  · have h := it_f h hc
    refine G.iconst (v := (0 : Int32)) C dX10_punch_27 (by decide) ?_
    cases h
    exact G.iret C hr dX10_punch_28
def bb_X10_punch_67_0 (x1 : Int32) (M : Mm) : Option (Int32 × Mm) := ltv (wI M 67 0 (0 : Int32)) fun M_1 => bd (f_X10_in x1 (0 : Int32) (2 : Int32)) fun v_3 => if v_3 = 0 then (bb_X10_punch_67_20 x1 (1 : Int32) M_1) else (bb_X10_punch_67_20 x1 (0 : Int32) M_1)
set_option maxHeartbeats 4000000 in
set_option maxRecDepth 100000 in
theorem gb_X10_punch_67_0  {x1 : Int32} {M : Mm} {v : Int32} {M' : Mm} (hE : Has shM (eH E)) (C : Cx RX10 cX10_punch 2 p (rmD 2) s m args meth c E) (hr : meth.sig.returnType = (some .int)) (h : bb_X10_punch_67_0 x1 M = some (v, M')) : G p l e (rmD 2) s m args below meth c E 2 0 0 (QR below args s E 0 0 (some (.int v)) M') 0 [(0, .ref (eA E 67)), (1, .int x1)] [] M := by
  unfold bb_X10_punch_67_0 at h
  refine G.aload_n C 0 dX10_punch_0 rfl rfl ?_
  refine G.iconst (v := (0 : Int32)) C dX10_punch_1 (by decide) ?_
  obtain ⟨M_1, eM_1, h⟩ := ltv_ex h
  refine G.putI (k := 0) C k_X10 (sm_67 hE) rfl (by decide) tg_1431 rfl rfl dX10_punch_2 eM_1 ?_
  refine G.aload_n C 0 dX10_punch_5 rfl rfl ?_
  refine G.iload_n C 1 dX10_punch_6 rfl rfl ?_
  refine G.iconst (v := (0 : Int32)) C dX10_punch_7 (by decide) ?_
  refine G.iconst (v := (2 : Int32)) C dX10_punch_8 (by decide) ?_
  obtain ⟨v_3, hv_2, h⟩ := bd_ex h
  refine G.callS (rest := [.ref (eA E 67)]) C (s_X10_in  hv_2) ⟨tg_1596, tg_103, ok_X10_in, Nat.le_of_ble_eq_true rfl, Nat.le_of_ble_eq_true rfl⟩ tg_1594 tg_1595 rfl (Nat.le_of_ble_eq_true rfl) dX10_punch_9 ⟨Nat.le_refl 0, Nat.le_refl 0⟩ ?_
  refine G.if_ne (tgt := 19) C dX10_punch_12 (by decide) (fun hc => ?_) (fun hc => ?_)
  · have h := it_f h hc
    refine G.iconst (v := (0 : Int32)) C dX10_punch_19 (by decide) ?_
    exact G.sub [0, 1] rfl (gb_X10_punch_67_20 hE C hr  h)
  · have h := it_t h hc
    refine G.iconst (v := (1 : Int32)) C dX10_punch_15 (by decide) ?_
    refine G.goto (tgt := 20) C dX10_punch_16 (by decide) ?_
    exact G.sub [0, 1] rfl (gb_X10_punch_67_20 hE C hr  h)
def f_X10_punch_67 (x1 : Int32) (M : Mm) : Option (Int32 × Mm) := bb_X10_punch_67_0 x1 M
theorem s_X10_punch_67 {l : Launch} {E : Ev} {x1 : Int32} {M : Mm} {v : Int32} {M' : Mm} (hE : Has shM (eH E)) (h : f_X10_punch_67 x1 M = some (v, M')) : MetA l yX10_punch cX10_punch 2 (some .int) 2 E [.ref (eA E 67), .int x1] M (some (.int v)) M' := by
  refine MetA.of (by decide +kernel) (Nat.le_of_ble_eq_true rfl) ?_
  intro p e s m below meth c C hr hnm
  exact G.sub [0, 1] rfl (gb_X10_punch_67_0 hE C hr  h)
def bb_X10_adds_67_0 (x1 : Int32) (M : Mm) : Option (Int32 × Mm) := if (M.1 67 25) = (40 : Int32) then (some ((-1 : Int32), M)) else (gd (inb (M.1 67 25) 40) (ltv (wI M 93 (ix (M.1 67 25)) x1) fun M_2 => ltv (wI M_2 67 25 ((M_2.1 67 25) + (1 : Int32))) fun M_3 => some (M_3.1 67 25, M_3)))
set_option maxHeartbeats 4000000 in
set_option maxRecDepth 100000 in
theorem gb_X10_adds_67_0  {x1 : Int32} {M : Mm} {v : Int32} {M' : Mm} (hE : Has shM (eH E)) (C : Cx RX10 cX10_adds 2 p (rmD 1) s m args meth c E) (hr : meth.sig.returnType = (some .int)) (h : bb_X10_adds_67_0 x1 M = some (v, M')) : G p l e (rmD 1) s m args below meth c E 2 0 0 (QR below args s E 0 0 (some (.int v)) M') 0 [(0, .ref (eA E 67)), (1, .int x1)] [] M := by
  unfold bb_X10_adds_67_0 at h
  refine G.aload_n C 0 dX10_adds_0 rfl rfl ?_
  refine G.getI (k := 25) C k_X10 (sm_67 hE) rfl (by decide) tg_1456 dX10_adds_1 ?_
  refine G.bipush (v := (40 : Int32)) C dX10_adds_4 (by decide) ?_
  refine G.icmp_ne (tgt := 11) C dX10_adds_6 (by decide) (fun hc => ?_) (fun hc => ?_)
  · have h := it_f h hc
    refine G.aload_n C 0 dX10_adds_11 rfl rfl ?_
    refine G.getR (k := 28) C k_X10 (sm_67 hE) rfl (by decide) tg_1459 dX10_adds_12 ?_
    refine G.aload_n C 0 dX10_adds_15 rfl rfl ?_
    refine G.getI (k := 25) C k_X10 (sm_67 hE) rfl (by decide) tg_1456 dX10_adds_16 ?_
    refine G.iload_n C 1 dX10_adds_19 rfl rfl ?_
    obtain ⟨hg_1, h⟩ := gd_ex h
    obtain ⟨M_2, eM_2, h⟩ := ltv_ex h
    refine G.sI (j := (ix (M.1 67 25))) C (sm_93 hE) hg_1 rfl dX10_adds_20 eM_2 ?_
    refine G.aload_n C 0 dX10_adds_21 rfl rfl ?_
    refine G.dup C dX10_adds_22 rfl ?_
    refine G.getI (k := 25) C k_X10 (sm_67 hE) rfl (by decide) tg_1456 dX10_adds_23 ?_
    refine G.iconst (v := (1 : Int32)) C dX10_adds_26 (by decide) ?_
    refine G.iadd C dX10_adds_27 ?_
    obtain ⟨M_3, eM_3, h⟩ := ltv_ex h
    refine G.putI (k := 25) C k_X10 (sm_67 hE) rfl (by decide) tg_1456 rfl rfl dX10_adds_28 eM_3 ?_
    refine G.aload_n C 0 dX10_adds_31 rfl rfl ?_
    refine G.getI (k := 25) C k_X10 (sm_67 hE) rfl (by decide) tg_1456 dX10_adds_32 ?_
    cases h
    exact G.iret C hr dX10_adds_35
  · have h := it_t h hc
    refine G.iconst (v := (-1 : Int32)) C dX10_adds_9 (by decide) ?_
    cases h
    exact G.iret C hr dX10_adds_10
def f_X10_adds_67 (x1 : Int32) (M : Mm) : Option (Int32 × Mm) := bb_X10_adds_67_0 x1 M
theorem s_X10_adds_67 {l : Launch} {E : Ev} {x1 : Int32} {M : Mm} {v : Int32} {M' : Mm} (hE : Has shM (eH E)) (h : f_X10_adds_67 x1 M = some (v, M')) : MetA l yX10_adds cX10_adds 2 (some .int) 1 E [.ref (eA E 67), .int x1] M (some (.int v)) M' := by
  refine MetA.of (by decide +kernel) (Nat.le_of_ble_eq_true rfl) ?_
  intro p e s m below meth c C hr hnm
  exact G.sub [0, 1] rfl (gb_X10_adds_67_0 hE C hr  h)
def bb_X10_addBlow_67_19 (x1 : Int32) (s1 : Int32) (M : Mm) : Option (Int32 × Mm) := bd2 (f_X10_bad_67 s1 (1 : Int32) M) fun v_6 M_5 => if v_6 = 0 then (bd2 (f_X10_adds_67 x1 M_5) fun v_9 M_8 => some (v_9, M_8)) else (some ((0 : Int32), M_5))
set_option maxHeartbeats 4000000 in
set_option maxRecDepth 100000 in
theorem gb_X10_addBlow_67_19  {x1 : Int32} {s1 : Int32} {M : Mm} {v : Int32} {M' : Mm} (hE : Has shM (eH E)) (C : Cx RX10 cX10_addBlow 2 p (rmD 3) s m args meth c E) (hr : meth.sig.returnType = (some .int)) (h : bb_X10_addBlow_67_19 x1 s1 M = some (v, M')) : G p l e (rmD 3) s m args below meth c E 2 0 0 (QR below args s E 0 0 (some (.int v)) M') 19 [(0, .ref (eA E 67)), (1, .int x1)] [.int s1, .ref (eA E 67)] M := by
  unfold bb_X10_addBlow_67_19 at h
  refine G.iconst (v := (1 : Int32)) C dX10_addBlow_19 (by decide) ?_
  obtain ⟨v_6, M_5, hv_4, h⟩ := bd2_ex h
  refine G.callV (rest := []) C (s_X10_bad_67 hE  hv_4) ⟨tg_1600, tg_103, ok_X10_bad, Nat.le_of_ble_eq_true rfl, Nat.le_of_ble_eq_true rfl⟩ tg_1597 tg_1599 tg_46 (sm_67 hE) rfl rfl (Nat.le_of_ble_eq_true rfl) dX10_addBlow_20 ⟨Nat.le_refl 0, Nat.le_refl 0⟩ ?_
  refine G.if_eq (tgt := 28) C dX10_addBlow_23 (by decide) (fun hc => ?_) (fun hc => ?_)
  · have h := it_t h hc
    refine G.aload_n C 0 dX10_addBlow_28 rfl rfl ?_
    refine G.iload_n C 1 dX10_addBlow_29 rfl rfl ?_
    obtain ⟨v_9, M_8, hv_7, h⟩ := bd2_ex h
    refine G.callV (rest := []) C (s_X10_adds_67 hE  hv_7) ⟨tg_1825, tg_103, ok_X10_adds, Nat.le_of_ble_eq_true rfl, Nat.le_of_ble_eq_true rfl⟩ tg_1822 tg_1824 tg_74 (sm_67 hE) rfl rfl (Nat.le_of_ble_eq_true rfl) dX10_addBlow_30 ⟨Nat.le_refl 0, Nat.le_refl 0⟩ ?_
    cases h
    exact G.iret C hr dX10_addBlow_33
  · have h := it_f h hc
    refine G.iconst (v := (0 : Int32)) C dX10_addBlow_26 (by decide) ?_
    cases h
    exact G.iret C hr dX10_addBlow_27
def bb_X10_addBlow_67_0 (x1 : Int32) (M : Mm) : Option (Int32 × Mm) := ltv (wI M 67 0 (0 : Int32)) fun M_1 => bd (f_X10_isHollow_67 x1 M_1) fun v_3 => if v_3 = 0 then (bb_X10_addBlow_67_19 x1 (1 : Int32) M_1) else (bb_X10_addBlow_67_19 x1 (0 : Int32) M_1)
set_option maxHeartbeats 4000000 in
set_option maxRecDepth 100000 in
theorem gb_X10_addBlow_67_0  {x1 : Int32} {M : Mm} {v : Int32} {M' : Mm} (hE : Has shM (eH E)) (C : Cx RX10 cX10_addBlow 2 p (rmD 3) s m args meth c E) (hr : meth.sig.returnType = (some .int)) (h : bb_X10_addBlow_67_0 x1 M = some (v, M')) : G p l e (rmD 3) s m args below meth c E 2 0 0 (QR below args s E 0 0 (some (.int v)) M') 0 [(0, .ref (eA E 67)), (1, .int x1)] [] M := by
  unfold bb_X10_addBlow_67_0 at h
  refine G.aload_n C 0 dX10_addBlow_0 rfl rfl ?_
  refine G.iconst (v := (0 : Int32)) C dX10_addBlow_1 (by decide) ?_
  obtain ⟨M_1, eM_1, h⟩ := ltv_ex h
  refine G.putI (k := 0) C k_X10 (sm_67 hE) rfl (by decide) tg_1431 rfl rfl dX10_addBlow_2 eM_1 ?_
  refine G.aload_n C 0 dX10_addBlow_5 rfl rfl ?_
  refine G.aload_n C 0 dX10_addBlow_6 rfl rfl ?_
  refine G.iload_n C 1 dX10_addBlow_7 rfl rfl ?_
  obtain ⟨v_3, hv_2, h⟩ := bd_ex h
  refine G.callV (rest := [.ref (eA E 67)]) C (s_X10_isHollow_67 hE  hv_2) ⟨tg_1722, tg_103, ok_X10_isHollow, Nat.le_of_ble_eq_true rfl, Nat.le_of_ble_eq_true rfl⟩ tg_1719 tg_1721 tg_65 (sm_67 hE) rfl rfl (Nat.le_of_ble_eq_true rfl) dX10_addBlow_8 ⟨Nat.le_refl 0, Nat.le_refl 0⟩ ?_
  refine G.if_ne (tgt := 18) C dX10_addBlow_11 (by decide) (fun hc => ?_) (fun hc => ?_)
  · have h := it_f h hc
    refine G.iconst (v := (0 : Int32)) C dX10_addBlow_18 (by decide) ?_
    exact G.sub [0, 1] rfl (gb_X10_addBlow_67_19 hE C hr  h)
  · have h := it_t h hc
    refine G.iconst (v := (1 : Int32)) C dX10_addBlow_14 (by decide) ?_
    refine G.goto (tgt := 19) C dX10_addBlow_15 (by decide) ?_
    exact G.sub [0, 1] rfl (gb_X10_addBlow_67_19 hE C hr  h)
def f_X10_addBlow_67 (x1 : Int32) (M : Mm) : Option (Int32 × Mm) := bb_X10_addBlow_67_0 x1 M
theorem s_X10_addBlow_67 {l : Launch} {E : Ev} {x1 : Int32} {M : Mm} {v : Int32} {M' : Mm} (hE : Has shM (eH E)) (h : f_X10_addBlow_67 x1 M = some (v, M')) : MetA l yX10_addBlow cX10_addBlow 2 (some .int) 3 E [.ref (eA E 67), .int x1] M (some (.int v)) M' := by
  refine MetA.of (by decide +kernel) (Nat.le_of_ble_eq_true rfl) ?_
  intro p e s m below meth c C hr hnm
  exact G.sub [0, 1] rfl (gb_X10_addBlow_67_0 hE C hr  h)
def bb_X10_addFile_67_20 (x1 : Int32) (x2 : Int32) (x3 : Int32) (s1 : Int32) (M : Mm) : Option (Int32 × Mm) := bd2 (f_X10_bad_67 s1 (1 : Int32) M) fun v_6 M_5 => if v_6 = 0 then (bd2 (f_X10_adds_67 (((((100 : Int32) + ((64 : Int32) * x1)) + ((8 : Int32) * x2)) + x3) - (1 : Int32)) M_5) fun v_9 M_8 => some (v_9, M_8)) else (some ((0 : Int32), M_5))
set_option maxHeartbeats 4000000 in
set_option maxRecDepth 100000 in
theorem gb_X10_addFile_67_20  {x1 : Int32} {x2 : Int32} {x3 : Int32} {s1 : Int32} {M : Mm} {v : Int32} {M' : Mm} (hE : Has shM (eH E)) (C : Cx RX10 cX10_addFile 4 p (rmD 3) s m args meth c E) (hr : meth.sig.returnType = (some .int)) (h : bb_X10_addFile_67_20 x1 x2 x3 s1 M = some (v, M')) : G p l e (rmD 3) s m args below meth c E 4 0 0 (QR below args s E 0 0 (some (.int v)) M') 20 [(0, .ref (eA E 67)), (1, .int x1), (2, .int x2), (3, .int x3)] [.int s1, .ref (eA E 67)] M := by
  unfold bb_X10_addFile_67_20 at h
  refine G.iconst (v := (1 : Int32)) C dX10_addFile_20 (by decide) ?_
  obtain ⟨v_6, M_5, hv_4, h⟩ := bd2_ex h
  refine G.callV (rest := []) C (s_X10_bad_67 hE  hv_4) ⟨tg_1600, tg_103, ok_X10_bad, Nat.le_of_ble_eq_true rfl, Nat.le_of_ble_eq_true rfl⟩ tg_1597 tg_1599 tg_46 (sm_67 hE) rfl rfl (Nat.le_of_ble_eq_true rfl) dX10_addFile_21 ⟨Nat.le_refl 0, Nat.le_refl 0⟩ ?_
  refine G.if_eq (tgt := 29) C dX10_addFile_24 (by decide) (fun hc => ?_) (fun hc => ?_)
  · have h := it_t h hc
    refine G.aload_n C 0 dX10_addFile_29 rfl rfl ?_
    refine G.bipush (v := (100 : Int32)) C dX10_addFile_30 (by decide) ?_
    refine G.bipush (v := (64 : Int32)) C dX10_addFile_32 (by decide) ?_
    refine G.iload_n C 1 dX10_addFile_34 rfl rfl ?_
    refine G.imul C dX10_addFile_35 ?_
    refine G.iadd C dX10_addFile_36 ?_
    refine G.bipush (v := (8 : Int32)) C dX10_addFile_37 (by decide) ?_
    refine G.iload_n C 2 dX10_addFile_39 rfl rfl ?_
    refine G.imul C dX10_addFile_40 ?_
    refine G.iadd C dX10_addFile_41 ?_
    refine G.iload_n C 3 dX10_addFile_42 rfl rfl ?_
    refine G.iadd C dX10_addFile_43 ?_
    refine G.iconst (v := (1 : Int32)) C dX10_addFile_44 (by decide) ?_
    refine G.isub C dX10_addFile_45 ?_
    obtain ⟨v_9, M_8, hv_7, h⟩ := bd2_ex h
    refine G.callV (rest := []) C (s_X10_adds_67 hE  hv_7) ⟨tg_1825, tg_103, ok_X10_adds, Nat.le_of_ble_eq_true rfl, Nat.le_of_ble_eq_true rfl⟩ tg_1822 tg_1824 tg_74 (sm_67 hE) rfl rfl (Nat.le_of_ble_eq_true rfl) dX10_addFile_46 ⟨Nat.le_refl 0, Nat.le_refl 0⟩ ?_
    cases h
    exact G.iret C hr dX10_addFile_49
  · have h := it_f h hc
    refine G.iconst (v := (0 : Int32)) C dX10_addFile_27 (by decide) ?_
    cases h
    exact G.iret C hr dX10_addFile_28
def bb_X10_addFile_67_0 (x1 : Int32) (x2 : Int32) (x3 : Int32) (M : Mm) : Option (Int32 × Mm) := ltv (wI M 67 0 (0 : Int32)) fun M_1 => bd (f_X10_isFile x1 x2 x3) fun v_3 => if v_3 = 0 then (bb_X10_addFile_67_20 x1 x2 x3 (1 : Int32) M_1) else (bb_X10_addFile_67_20 x1 x2 x3 (0 : Int32) M_1)
set_option maxHeartbeats 4000000 in
set_option maxRecDepth 100000 in
theorem gb_X10_addFile_67_0  {x1 : Int32} {x2 : Int32} {x3 : Int32} {M : Mm} {v : Int32} {M' : Mm} (hE : Has shM (eH E)) (C : Cx RX10 cX10_addFile 4 p (rmD 3) s m args meth c E) (hr : meth.sig.returnType = (some .int)) (h : bb_X10_addFile_67_0 x1 x2 x3 M = some (v, M')) : G p l e (rmD 3) s m args below meth c E 4 0 0 (QR below args s E 0 0 (some (.int v)) M') 0 [(0, .ref (eA E 67)), (1, .int x1), (2, .int x2), (3, .int x3)] [] M := by
  unfold bb_X10_addFile_67_0 at h
  refine G.aload_n C 0 dX10_addFile_0 rfl rfl ?_
  refine G.iconst (v := (0 : Int32)) C dX10_addFile_1 (by decide) ?_
  obtain ⟨M_1, eM_1, h⟩ := ltv_ex h
  refine G.putI (k := 0) C k_X10 (sm_67 hE) rfl (by decide) tg_1431 rfl rfl dX10_addFile_2 eM_1 ?_
  refine G.aload_n C 0 dX10_addFile_5 rfl rfl ?_
  refine G.iload_n C 1 dX10_addFile_6 rfl rfl ?_
  refine G.iload_n C 2 dX10_addFile_7 rfl rfl ?_
  refine G.iload_n C 3 dX10_addFile_8 rfl rfl ?_
  obtain ⟨v_3, hv_2, h⟩ := bd_ex h
  refine G.callS (rest := [.ref (eA E 67)]) C (s_X10_isFile  hv_2) ⟨tg_1801, tg_103, ok_X10_isFile, Nat.le_of_ble_eq_true rfl, Nat.le_of_ble_eq_true rfl⟩ tg_1799 tg_1800 rfl (Nat.le_of_ble_eq_true rfl) dX10_addFile_9 ⟨Nat.le_refl 0, Nat.le_refl 0⟩ ?_
  refine G.if_ne (tgt := 19) C dX10_addFile_12 (by decide) (fun hc => ?_) (fun hc => ?_)
  · have h := it_f h hc
    refine G.iconst (v := (0 : Int32)) C dX10_addFile_19 (by decide) ?_
    exact G.sub [0, 1, 2, 3] rfl (gb_X10_addFile_67_20 hE C hr  h)
  · have h := it_t h hc
    refine G.iconst (v := (1 : Int32)) C dX10_addFile_15 (by decide) ?_
    refine G.goto (tgt := 20) C dX10_addFile_16 (by decide) ?_
    exact G.sub [0, 1, 2, 3] rfl (gb_X10_addFile_67_20 hE C hr  h)
def f_X10_addFile_67 (x1 : Int32) (x2 : Int32) (x3 : Int32) (M : Mm) : Option (Int32 × Mm) := bb_X10_addFile_67_0 x1 x2 x3 M
theorem s_X10_addFile_67 {l : Launch} {E : Ev} {x1 : Int32} {x2 : Int32} {x3 : Int32} {M : Mm} {v : Int32} {M' : Mm} (hE : Has shM (eH E)) (h : f_X10_addFile_67 x1 x2 x3 M = some (v, M')) : MetA l yX10_addFile cX10_addFile 4 (some .int) 3 E [.ref (eA E 67), .int x1, .int x2, .int x3] M (some (.int v)) M' := by
  refine MetA.of (by decide +kernel) (Nat.le_of_ble_eq_true rfl) ?_
  intro p e s m below meth c C hr hnm
  exact G.sub [0, 1, 2, 3] rfl (gb_X10_addFile_67_0 hE C hr  h)
def bb_X10_clear_67_0  (M : Mm) : Option (Int32 × Mm) := ltv (wI M 67 0 (0 : Int32)) fun M_1 => ltv (M_1.1 67 25) fun x1_2 => ltv (wI M_1 67 25 (0 : Int32)) fun M_3 => some (x1_2, M_3)
set_option maxHeartbeats 4000000 in
set_option maxRecDepth 100000 in
theorem gb_X10_clear_67_0   {M : Mm} {v : Int32} {M' : Mm} (hE : Has shM (eH E)) (C : Cx RX10 cX10_clear 2 p (rmD 1) s m args meth c E) (hr : meth.sig.returnType = (some .int)) (h : bb_X10_clear_67_0 M = some (v, M')) : G p l e (rmD 1) s m args below meth c E 2 0 0 (QR below args s E 0 0 (some (.int v)) M') 0 [(0, .ref (eA E 67))] [] M := by
  unfold bb_X10_clear_67_0 at h
  refine G.aload_n C 0 dX10_clear_0 rfl rfl ?_
  refine G.iconst (v := (0 : Int32)) C dX10_clear_1 (by decide) ?_
  obtain ⟨M_1, eM_1, h⟩ := ltv_ex h
  refine G.putI (k := 0) C k_X10 (sm_67 hE) rfl (by decide) tg_1431 rfl rfl dX10_clear_2 eM_1 ?_
  refine G.aload_n C 0 dX10_clear_5 rfl rfl ?_
  refine G.getI (k := 25) C k_X10 (sm_67 hE) rfl (by decide) tg_1456 dX10_clear_6 ?_
  obtain ⟨x1_2, ex1_2, h⟩ := ltv_ex h
  refine G.istore_n (L' := [(1, .int x1_2), (0, .ref (eA E 67))]) C dX10_clear_9 rfl ex1_2 (by decide) rfl ?_
  refine G.aload_n C 1 dX10_clear_10 rfl rfl ?_
  refine G.iconst (v := (0 : Int32)) C dX10_clear_11 (by decide) ?_
  obtain ⟨M_3, eM_3, h⟩ := ltv_ex h
  refine G.putI (k := 25) C k_X10 (sm_67 hE) rfl (by decide) tg_1456 rfl rfl dX10_clear_12 eM_3 ?_
  refine G.iload_n C 0 dX10_clear_15 rfl rfl ?_
  cases h
  exact G.iret C hr dX10_clear_16
def f_X10_clear_67  (M : Mm) : Option (Int32 × Mm) := bb_X10_clear_67_0 M
theorem s_X10_clear_67 {l : Launch} {E : Ev}  {M : Mm} {v : Int32} {M' : Mm} (hE : Has shM (eH E)) (h : f_X10_clear_67 M = some (v, M')) : MetA l yX10_clear cX10_clear 2 (some .int) 1 E [.ref (eA E 67)] M (some (.int v)) M' := by
  refine MetA.of (by decide +kernel) (Nat.le_of_ble_eq_true rfl) ?_
  intro p e s m below meth c C hr hnm
  exact G.sub [0] rfl (gb_X10_clear_67_0 hE C hr  h)
def bb_X10_judge_67_147 (k_68 : Int32 → Int32 → Int64 → Int32 → Int32 → Mm → Option (Int32 × Mm)) (x1 : Int32) (x2 : Int32) (x3 : Int64) (x5 : Int32) (x6 : Int32) (M : Mm) : Option (Int32 × Mm) := if x5 = (-1 : Int32) then (bd (f_X10_isGood_67 x1 M) fun v_26 => if v_26 = 0 then (ltv (x6 + (1 : Int32)) fun x6_28 => k_68 x1 x2 x3 x6 x6_28 M) else (ltv (x6 + (1 : Int32)) fun x6_27 => k_68 x1 x2 x3 x5 x6_27 M)) else (ltv (x6 + (1 : Int32)) fun x6_24 => k_68 x1 x2 x3 x5 x6_24 M)
set_option maxHeartbeats 4000000 in
set_option maxRecDepth 100000 in
theorem gb_X10_judge_67_147  {k_68 : Int32 → Int32 → Int64 → Int32 → Int32 → Mm → Option (Int32 × Mm)} {x1 : Int32} {x2 : Int32} {x3 : Int64} {x5 : Int32} {x6 : Int32} {M : Mm} {v : Int32} {M' : Mm} (hE : Has shM (eH E)) (C : Cx RX10 cX10_judge 8 p (rmD 4) s m args meth c E) (hr : meth.sig.returnType = (some .int)) (hk_68 : ∀ (x1 : Int32) (x2 : Int32) (x3 : Int64) (x5 : Int32) (x6 : Int32) (M : Mm), k_68 x1 x2 x3 x5 x6 M = some (v, M') → G p l e (rmD 4) s m args below meth c E 8 0 0 (QR below args s E 0 0 (some (.int v)) M') 68 [(0, .ref (eA E 67)), (1, .int x1), (2, .int x2), (3, .long x3), (5, .int x5), (6, .int x6)] [] M) (h : bb_X10_judge_67_147 k_68 x1 x2 x3 x5 x6 M = some (v, M')) : G p l e (rmD 4) s m args below meth c E 8 0 0 (QR below args s E 0 0 (some (.int v)) M') 147 [(0, .ref (eA E 67)), (1, .int x1), (2, .int x2), (3, .long x3), (5, .int x5), (6, .int x6)] [] M := by
  unfold bb_X10_judge_67_147 at h
  refine G.iload C 4 dX10_judge_147 rfl ?_
  refine G.iconst (v := (-1 : Int32)) C dX10_judge_149 (by decide) ?_
  refine G.icmp_ne (tgt := 166) C dX10_judge_150 (by decide) (fun hc => ?_) (fun hc => ?_)
  · have h := it_f h hc
    refine G.iload C 4 dX10_judge_166 rfl ?_
    refine G.istore (L' := [(5, .int x5), (0, .ref (eA E 67)), (1, .int x1), (2, .int x2), (3, .long x3), (6, .int x6)]) C dX10_judge_168 rfl (by decide) rfl ?_
    obtain ⟨x6_24, ex6_24, h⟩ := ltv_ex h
    refine G.iinc (L' := [(6, .int x6_24), (5, .int x5), (0, .ref (eA E 67)), (1, .int x1), (2, .int x2), (3, .long x3)]) C 5 dX10_judge_170 rfl (ex6_24.trans rfl) (by decide) rfl ?_
    refine G.goto (tgt := 68) C dX10_judge_173 (by decide) ?_
    exact G.sub [2, 3, 4, 5, 1, 0] rfl (hk_68 _ _ _ _ _ _  h)
  · have h := it_t h hc
    refine G.aload_n C 0 dX10_judge_153 rfl rfl ?_
    refine G.iload_n C 1 dX10_judge_154 rfl rfl ?_
    obtain ⟨v_26, hv_25, h⟩ := bd_ex h
    refine G.callV (rest := []) C (s_X10_isGood_67 hE  hv_25) ⟨tg_1817, tg_103, ok_X10_isGood, Nat.le_of_ble_eq_true rfl, Nat.le_of_ble_eq_true rfl⟩ tg_1814 tg_1816 tg_73 (sm_67 hE) rfl rfl (Nat.le_of_ble_eq_true rfl) dX10_judge_155 ⟨Nat.le_refl 0, Nat.le_refl 0⟩ ?_
    refine G.if_ne (tgt := 166) C dX10_judge_158 (by decide) (fun hc => ?_) (fun hc => ?_)
    · have h := it_f h hc
      refine G.iload C 4 dX10_judge_166 rfl ?_
      refine G.istore (L' := [(5, .int x5), (0, .ref (eA E 67)), (1, .int x1), (2, .int x2), (3, .long x3), (6, .int x6)]) C dX10_judge_168 rfl (by decide) rfl ?_
      obtain ⟨x6_27, ex6_27, h⟩ := ltv_ex h
      refine G.iinc (L' := [(6, .int x6_27), (5, .int x5), (0, .ref (eA E 67)), (1, .int x1), (2, .int x2), (3, .long x3)]) C 5 dX10_judge_170 rfl (ex6_27.trans rfl) (by decide) rfl ?_
      refine G.goto (tgt := 68) C dX10_judge_173 (by decide) ?_
      exact G.sub [2, 3, 4, 5, 1, 0] rfl (hk_68 _ _ _ _ _ _  h)
    · have h := it_t h hc
      refine G.iload C 5 dX10_judge_161 rfl ?_
      refine G.goto (tgt := 168) C dX10_judge_163 (by decide) ?_
      refine G.istore (L' := [(5, .int x6), (0, .ref (eA E 67)), (1, .int x1), (2, .int x2), (3, .long x3), (6, .int x6)]) C dX10_judge_168 rfl (by decide) rfl ?_
      obtain ⟨x6_28, ex6_28, h⟩ := ltv_ex h
      refine G.iinc (L' := [(6, .int x6_28), (5, .int x6), (0, .ref (eA E 67)), (1, .int x1), (2, .int x2), (3, .long x3)]) C 5 dX10_judge_170 rfl (ex6_28.trans rfl) (by decide) rfl ?_
      refine G.goto (tgt := 68) C dX10_judge_173 (by decide) ?_
      exact G.sub [2, 3, 4, 5, 1, 0] rfl (hk_68 _ _ _ _ _ _  h)
def bb_X10_judge_67_195 (x2 : Int32) (x3 : Int64) (x5 : Int32) (s0 : Int32) (M : Mm) : Option (Int32 × Mm) := ltv (wJ M 67 22 x3) fun M_23 => if x2 = 0 then (some (x5, M_23)) else (if s0 = 0 then (some ((0 : Int32), M_23)) else (some ((1 : Int32), M_23)))
set_option maxHeartbeats 4000000 in
set_option maxRecDepth 100000 in
theorem gb_X10_judge_67_195  {x2 : Int32} {x3 : Int64} {x5 : Int32} {s0 : Int32} {M : Mm} {v : Int32} {M' : Mm} (hE : Has shM (eH E)) (C : Cx RX10 cX10_judge 8 p (rmD 4) s m args meth c E) (hr : meth.sig.returnType = (some .int)) (h : bb_X10_judge_67_195 x2 x3 x5 s0 M = some (v, M')) : G p l e (rmD 4) s m args below meth c E 8 0 0 (QR below args s E 0 0 (some (.int v)) M') 195 [(0, .ref (eA E 67)), (2, .int x2), (3, .long x3), (5, .int x5)] [.int s0] M := by
  unfold bb_X10_judge_67_195 at h
  refine G.istore (L' := [(6, .int s0), (0, .ref (eA E 67)), (2, .int x2), (3, .long x3), (5, .int x5)]) C dX10_judge_195 rfl (by decide) rfl ?_
  refine G.aload_n C 1 dX10_judge_197 rfl rfl ?_
  refine G.lload_n C 3 dX10_judge_198 rfl rfl ?_
  obtain ⟨M_23, eM_23, h⟩ := ltv_ex h
  refine G.putJ (k := 22) C k_X10 (sm_67 hE) rfl (by decide) tg_1453 rfl rfl dX10_judge_199 eM_23 ?_
  refine G.iload_n C 2 dX10_judge_202 rfl rfl ?_
  refine G.if_ne (tgt := 211) C dX10_judge_203 (by decide) (fun hc => ?_) (fun hc => ?_)
  · have h := it_f h hc
    refine G.iload C 0 dX10_judge_211 rfl ?_
    refine G.if_eq (tgt := 220) C dX10_judge_213 (by decide) (fun hc => ?_) (fun hc => ?_)
    · have h := it_t h hc
      refine G.iconst (v := (0 : Int32)) C dX10_judge_220 (by decide) ?_
      cases h
      exact G.iret C hr dX10_judge_221
    · have h := it_f h hc
      refine G.iconst (v := (1 : Int32)) C dX10_judge_216 (by decide) ?_
      refine G.goto (tgt := 221) C dX10_judge_217 (by decide) ?_
      cases h
      exact G.iret C hr dX10_judge_221
  · have h := it_t h hc
    refine G.iload C 4 dX10_judge_206 rfl ?_
    refine G.goto (tgt := 221) C dX10_judge_208 (by decide) ?_
    cases h
    exact G.iret C hr dX10_judge_221
def bb_X10_judge_67_68 (k_68 : Int32 → Int32 → Int64 → Int32 → Int32 → Mm → Option (Int32 × Mm)) (x1 : Int32) (x2 : Int32) (x3 : Int64) (x5 : Int32) (x6 : Int32) (M : Mm) : Option (Int32 × Mm) := if (M.1 67 25) ≤ x6 then (gd (inb x1 10) (if (M.2 67 22) = (M.2 72 (ix x1)) then (bb_X10_judge_67_195 x2 x3 x5 (1 : Int32) M) else (bb_X10_judge_67_195 x2 x3 x5 (0 : Int32) M))) else (gd (inb x6 40) (ltv (M.1 93 (ix x6)) fun x7_16 => if x7_16 < (100 : Int32) then (gd (inb x7_16 16) (if (M.1 92 (ix x7_16)) = x1 then (bd2 (f_X10_blows_67 x7_16 M) fun v_20 M_19 => bb_X10_judge_67_147 k_68 x1 x2 x3 x5 x6 M_19) else (bb_X10_judge_67_147 k_68 x1 x2 x3 x5 x6 M))) else (bd (f_X10_files_67 ((x7_16 - (100 : Int32)) / (64 : Int32)) (rmI ((x7_16 - (100 : Int32)) / (8 : Int32)) (8 : Int32)) ((rmI (x7_16 - (100 : Int32)) (8 : Int32)) + (1 : Int32)) M) fun M_22 => bb_X10_judge_67_147 k_68 x1 x2 x3 x5 x6 M_22)))
set_option maxHeartbeats 4000000 in
set_option maxRecDepth 100000 in
theorem gb_X10_judge_67_68  {k_68 : Int32 → Int32 → Int64 → Int32 → Int32 → Mm → Option (Int32 × Mm)} {x1 : Int32} {x2 : Int32} {x3 : Int64} {x5 : Int32} {x6 : Int32} {M : Mm} {v : Int32} {M' : Mm} (hE : Has shM (eH E)) (C : Cx RX10 cX10_judge 8 p (rmD 4) s m args meth c E) (hr : meth.sig.returnType = (some .int)) (hk_68 : ∀ (x1 : Int32) (x2 : Int32) (x3 : Int64) (x5 : Int32) (x6 : Int32) (M : Mm), k_68 x1 x2 x3 x5 x6 M = some (v, M') → G p l e (rmD 4) s m args below meth c E 8 0 0 (QR below args s E 0 0 (some (.int v)) M') 68 [(0, .ref (eA E 67)), (1, .int x1), (2, .int x2), (3, .long x3), (5, .int x5), (6, .int x6)] [] M) (h : bb_X10_judge_67_68 k_68 x1 x2 x3 x5 x6 M = some (v, M')) : G p l e (rmD 4) s m args below meth c E 8 0 0 (QR below args s E 0 0 (some (.int v)) M') 68 [(0, .ref (eA E 67)), (1, .int x1), (2, .int x2), (3, .long x3), (5, .int x5), (6, .int x6)] [] M := by
  unfold bb_X10_judge_67_68 at h
  refine G.iload C 5 dX10_judge_68 rfl ?_
  refine G.aload_n C 0 dX10_judge_70 rfl rfl ?_
  refine G.getI (k := 25) C k_X10 (sm_67 hE) rfl (by decide) tg_1456 dX10_judge_71 ?_
  refine G.icmp_ge (tgt := 176) C dX10_judge_74 (by decide) (fun hc => ?_) (fun hc => ?_)
  · have h := it_t h hc
    refine G.aload_n C 0 dX10_judge_176 rfl rfl ?_
    refine G.getJ (k := 22) C k_X10 (sm_67 hE) rfl (by decide) tg_1453 dX10_judge_177 ?_
    refine G.aload_n C 0 dX10_judge_180 rfl rfl ?_
    refine G.getR (k := 12) C k_X10 (sm_67 hE) rfl (by decide) tg_1443 dX10_judge_181 ?_
    refine G.iload_n C 1 dX10_judge_184 rfl rfl ?_
    obtain ⟨hg_14, h⟩ := gd_ex h
    refine G.aJ (j := ix x1) C (sm_72 hE) hg_14 rfl dX10_judge_185 ?_
    refine G.lcmp C dX10_judge_186 (G.if_ne (tgt := 194) C dX10_judge_187 (by decide) (fun hc => ?_) (fun hc => ?_))
    · have h := it_f h (lgc_ne.mp hc)
      refine G.iconst (v := (0 : Int32)) C dX10_judge_194 (by decide) ?_
      exact G.sub [0, 2, 3, 4] rfl (gb_X10_judge_67_195 hE C hr  h)
    · have h := it_t h (lgc_eq.mp hc)
      refine G.iconst (v := (1 : Int32)) C dX10_judge_190 (by decide) ?_
      refine G.goto (tgt := 195) C dX10_judge_191 (by decide) ?_
      exact G.sub [0, 2, 3, 4] rfl (gb_X10_judge_67_195 hE C hr  h)
  · have h := it_f h hc
    refine G.aload_n C 0 dX10_judge_77 rfl rfl ?_
    refine G.getR (k := 28) C k_X10 (sm_67 hE) rfl (by decide) tg_1459 dX10_judge_78 ?_
    refine G.iload C 5 dX10_judge_81 rfl ?_
    obtain ⟨hg_15, h⟩ := gd_ex h
    refine G.aI (j := ix x6) C (sm_93 hE) hg_15 rfl dX10_judge_83 ?_
    obtain ⟨x7_16, ex7_16, h⟩ := ltv_ex h
    refine G.istore (L' := [(7, .int x7_16), (0, .ref (eA E 67)), (1, .int x1), (2, .int x2), (3, .long x3), (5, .int x5), (6, .int x6)]) C dX10_judge_84 ex7_16 (by decide) rfl ?_
    refine G.iload C 0 dX10_judge_86 rfl ?_
    refine G.bipush (v := (100 : Int32)) C dX10_judge_88 (by decide) ?_
    refine G.icmp_lt (tgt := 129) C dX10_judge_90 (by decide) (fun hc => ?_) (fun hc => ?_)
    · have h := it_t h hc
      refine G.aload_n C 1 dX10_judge_129 rfl rfl ?_
      refine G.getR (k := 21) C k_X10 (sm_67 hE) rfl (by decide) tg_1452 dX10_judge_130 ?_
      refine G.iload C 0 dX10_judge_133 rfl ?_
      obtain ⟨hg_17, h⟩ := gd_ex h
      refine G.aI (j := ix x7_16) C (sm_92 hE) hg_17 rfl dX10_judge_135 ?_
      refine G.iload_n C 2 dX10_judge_136 rfl rfl ?_
      refine G.icmp_ne (tgt := 147) C dX10_judge_137 (by decide) (fun hc => ?_) (fun hc => ?_)
      · have h := it_f h hc
        exact G.sub [1, 2, 3, 4, 5, 6] rfl (gb_X10_judge_67_147 hE C hr hk_68  h)
      · have h := it_t h hc
        refine G.aload_n C 1 dX10_judge_140 rfl rfl ?_
        refine G.iload C 0 dX10_judge_141 rfl ?_
        obtain ⟨v_20, M_19, hv_18, h⟩ := bd2_ex h
        refine G.callV (rest := []) C (s_X10_blows_67 hE  hv_18) ⟨tg_1794, tg_103, ok_X10_blows, Nat.le_of_ble_eq_true rfl, Nat.le_of_ble_eq_true rfl⟩ tg_1791 tg_1793 tg_71 (sm_67 hE) rfl rfl (Nat.le_of_ble_eq_true rfl) dX10_judge_143 ⟨Nat.le_refl 0, Nat.le_refl 0⟩ ?_
        refine G.pop C dX10_judge_146 rfl ?_
        exact G.sub [1, 2, 3, 4, 5, 6] rfl (gb_X10_judge_67_147 hE C hr hk_68  h)
    · have h := it_f h hc
      refine G.aload_n C 1 dX10_judge_93 rfl rfl ?_
      refine G.iload C 0 dX10_judge_94 rfl ?_
      refine G.bipush (v := (100 : Int32)) C dX10_judge_96 (by decide) ?_
      refine G.isub C dX10_judge_98 ?_
      refine G.bipush (v := (64 : Int32)) C dX10_judge_99 (by decide) ?_
      refine G.idiv C dX10_judge_101 (by decide) ?_
      refine G.iload C 0 dX10_judge_102 rfl ?_
      refine G.bipush (v := (100 : Int32)) C dX10_judge_104 (by decide) ?_
      refine G.isub C dX10_judge_106 ?_
      refine G.bipush (v := (8 : Int32)) C dX10_judge_107 (by decide) ?_
      refine G.idiv C dX10_judge_109 (by decide) ?_
      refine G.bipush (v := (8 : Int32)) C dX10_judge_110 (by decide) ?_
      refine G.irm C dX10_judge_112 (by decide) ?_
      refine G.iload C 0 dX10_judge_113 rfl ?_
      refine G.bipush (v := (100 : Int32)) C dX10_judge_115 (by decide) ?_
      refine G.isub C dX10_judge_117 ?_
      refine G.bipush (v := (8 : Int32)) C dX10_judge_118 (by decide) ?_
      refine G.irm C dX10_judge_120 (by decide) ?_
      refine G.iconst (v := (1 : Int32)) C dX10_judge_121 (by decide) ?_
      refine G.iadd C dX10_judge_122 ?_
      obtain ⟨M_22, hv_21, h⟩ := bd_ex h
      refine G.callV (rest := []) C (s_X10_files_67 hE  hv_21) ⟨tg_1805, tg_103, ok_X10_files, Nat.le_of_ble_eq_true rfl, Nat.le_of_ble_eq_true rfl⟩ tg_1802 tg_1804 tg_72 (sm_67 hE) rfl rfl (Nat.le_of_ble_eq_true rfl) dX10_judge_123 ⟨Nat.le_refl 0, Nat.le_refl 0⟩ ?_
      refine G.goto (tgt := 147) C dX10_judge_126 (by decide) ?_
      exact G.sub [1, 2, 3, 4, 5, 6] rfl (gb_X10_judge_67_147 hE C hr hk_68  h)
def b_X10_judge_67_68 : Nat → Int32 → Int32 → Int64 → Int32 → Int32 → Mm → Option (Int32 × Mm)
  | 0, _, _, _, _, _, _ => none
  | n + 1, x1, x2, x3, x5, x6, M => bb_X10_judge_67_68 (b_X10_judge_67_68 n) x1 x2 x3 x5 x6 M
set_option maxHeartbeats 4000000 in
theorem g_X10_judge_67_68  {n : Nat} {x1 : Int32} {x2 : Int32} {x3 : Int64} {x5 : Int32} {x6 : Int32} {M : Mm} {v : Int32} {M' : Mm} (hE : Has shM (eH E)) (C : Cx RX10 cX10_judge 8 p (rmD 4) s m args meth c E) (hr : meth.sig.returnType = (some .int)) (h : b_X10_judge_67_68 n x1 x2 x3 x5 x6 M = some (v, M')) : G p l e (rmD 4) s m args below meth c E 8 0 0 (QR below args s E 0 0 (some (.int v)) M') 68 [(0, .ref (eA E 67)), (1, .int x1), (2, .int x2), (3, .long x3), (5, .int x5), (6, .int x6)] [] M := by
  induction n generalizing x1 x2 x3 x5 x6 M with
  | zero => cases h
  | succ n ih => exact gb_X10_judge_67_68 hE C hr (fun _ _ _ _ _ _ => ih)  h
def bb_X10_judge_67_41 (x1 : Int32) (x2 : Int32) (s1 : Int32) (M : Mm) : Option (Int32 × Mm) := bd2 (f_X10_bad_67 s1 (2 : Int32) M) fun v_11 M_10 => if v_11 = 0 then (ltv (M_10.2 67 22) fun x3_12 => ltv (wJ M_10 67 22 (-1 : Int64)) fun M_13 => b_X10_judge_67_68 FU x1 x2 x3_12 (-1 : Int32) (0 : Int32) M_13) else (some ((0 : Int32), M_10))
set_option maxHeartbeats 4000000 in
set_option maxRecDepth 100000 in
theorem gb_X10_judge_67_41  {x1 : Int32} {x2 : Int32} {s1 : Int32} {M : Mm} {v : Int32} {M' : Mm} (hE : Has shM (eH E)) (C : Cx RX10 cX10_judge 8 p (rmD 4) s m args meth c E) (hr : meth.sig.returnType = (some .int)) (h : bb_X10_judge_67_41 x1 x2 s1 M = some (v, M')) : G p l e (rmD 4) s m args below meth c E 8 0 0 (QR below args s E 0 0 (some (.int v)) M') 41 [(0, .ref (eA E 67)), (1, .int x1), (2, .int x2)] [.int s1, .ref (eA E 67)] M := by
  unfold bb_X10_judge_67_41 at h
  refine G.iconst (v := (2 : Int32)) C dX10_judge_41 (by decide) ?_
  obtain ⟨v_11, M_10, hv_9, h⟩ := bd2_ex h
  refine G.callV (rest := []) C (s_X10_bad_67 hE  hv_9) ⟨tg_1600, tg_103, ok_X10_bad, Nat.le_of_ble_eq_true rfl, Nat.le_of_ble_eq_true rfl⟩ tg_1597 tg_1599 tg_46 (sm_67 hE) rfl rfl (Nat.le_of_ble_eq_true rfl) dX10_judge_42 ⟨Nat.le_refl 0, Nat.le_refl 0⟩ ?_
  refine G.if_eq (tgt := 50) C dX10_judge_45 (by decide) (fun hc => ?_) (fun hc => ?_)
  · have h := it_t h hc
    refine G.aload_n C 0 dX10_judge_50 rfl rfl ?_
    refine G.getJ (k := 22) C k_X10 (sm_67 hE) rfl (by decide) tg_1453 dX10_judge_51 ?_
    obtain ⟨x3_12, ex3_12, h⟩ := ltv_ex h
    refine G.lstore_n (L' := [(3, .long x3_12), (0, .ref (eA E 67)), (1, .int x1), (2, .int x2)]) C dX10_judge_54 rfl ex3_12 (by decide) rfl ?_
    refine G.aload_n C 1 dX10_judge_55 rfl rfl ?_
    refine G.ldc2 C tg_1655 dX10_judge_56 ?_
    obtain ⟨M_13, eM_13, h⟩ := ltv_ex h
    refine G.putJ (k := 22) C k_X10 (sm_67 hE) rfl (by decide) tg_1453 rfl rfl dX10_judge_59 eM_13 ?_
    refine G.iconst (v := (-1 : Int32)) C dX10_judge_62 (by decide) ?_
    refine G.istore (L' := [(5, .int (-1 : Int32)), (3, .long x3_12), (0, .ref (eA E 67)), (1, .int x1), (2, .int x2)]) C dX10_judge_63 rfl (by decide) rfl ?_
    refine G.iconst (v := (0 : Int32)) C dX10_judge_65 (by decide) ?_
    refine G.istore (L' := [(6, .int (0 : Int32)), (5, .int (-1 : Int32)), (3, .long x3_12), (0, .ref (eA E 67)), (1, .int x1), (2, .int x2)]) C dX10_judge_66 rfl (by decide) rfl ?_
    exact G.sub [3, 4, 5, 2, 1, 0] rfl (g_X10_judge_67_68 hE C hr  h)
  · have h := it_f h hc
    refine G.iconst (v := (0 : Int32)) C dX10_judge_48 (by decide) ?_
    cases h
    exact G.iret C hr dX10_judge_49
def bb_X10_judge_67_19 (x1 : Int32) (x2 : Int32) (s1 : Int32) (M : Mm) : Option (Int32 × Mm) := bd2 (f_X10_bad_67 s1 (1 : Int32) M) fun v_6 M_5 => if v_6 = 0 then (bd (f_X10_in x2 (0 : Int32) (1 : Int32)) fun v_8 => if v_8 = 0 then (bb_X10_judge_67_41 x1 x2 (1 : Int32) M_5) else (bb_X10_judge_67_41 x1 x2 (0 : Int32) M_5)) else (some ((0 : Int32), M_5))
set_option maxHeartbeats 4000000 in
set_option maxRecDepth 100000 in
theorem gb_X10_judge_67_19  {x1 : Int32} {x2 : Int32} {s1 : Int32} {M : Mm} {v : Int32} {M' : Mm} (hE : Has shM (eH E)) (C : Cx RX10 cX10_judge 8 p (rmD 4) s m args meth c E) (hr : meth.sig.returnType = (some .int)) (h : bb_X10_judge_67_19 x1 x2 s1 M = some (v, M')) : G p l e (rmD 4) s m args below meth c E 8 0 0 (QR below args s E 0 0 (some (.int v)) M') 19 [(0, .ref (eA E 67)), (1, .int x1), (2, .int x2)] [.int s1, .ref (eA E 67)] M := by
  unfold bb_X10_judge_67_19 at h
  refine G.iconst (v := (1 : Int32)) C dX10_judge_19 (by decide) ?_
  obtain ⟨v_6, M_5, hv_4, h⟩ := bd2_ex h
  refine G.callV (rest := []) C (s_X10_bad_67 hE  hv_4) ⟨tg_1600, tg_103, ok_X10_bad, Nat.le_of_ble_eq_true rfl, Nat.le_of_ble_eq_true rfl⟩ tg_1597 tg_1599 tg_46 (sm_67 hE) rfl rfl (Nat.le_of_ble_eq_true rfl) dX10_judge_20 ⟨Nat.le_refl 0, Nat.le_refl 0⟩ ?_
  refine G.if_ne (tgt := 48) C dX10_judge_23 (by decide) (fun hc => ?_) (fun hc => ?_)
  · have h := it_f h hc
    refine G.iconst (v := (0 : Int32)) C dX10_judge_48 (by decide) ?_
    cases h
    exact G.iret C hr dX10_judge_49
  · have h := it_t h hc
    refine G.aload_n C 0 dX10_judge_26 rfl rfl ?_
    refine G.iload_n C 2 dX10_judge_27 rfl rfl ?_
    refine G.iconst (v := (0 : Int32)) C dX10_judge_28 (by decide) ?_
    refine G.iconst (v := (1 : Int32)) C dX10_judge_29 (by decide) ?_
    obtain ⟨v_8, hv_7, h⟩ := bd_ex h
    refine G.callS (rest := [.ref (eA E 67)]) C (s_X10_in  hv_7) ⟨tg_1596, tg_103, ok_X10_in, Nat.le_of_ble_eq_true rfl, Nat.le_of_ble_eq_true rfl⟩ tg_1594 tg_1595 rfl (Nat.le_of_ble_eq_true rfl) dX10_judge_30 ⟨Nat.le_refl 0, Nat.le_refl 0⟩ ?_
    refine G.if_ne (tgt := 40) C dX10_judge_33 (by decide) (fun hc => ?_) (fun hc => ?_)
    · have h := it_f h hc
      refine G.iconst (v := (0 : Int32)) C dX10_judge_40 (by decide) ?_
      exact G.sub [0, 1, 2] rfl (gb_X10_judge_67_41 hE C hr  h)
    · have h := it_t h hc
      refine G.iconst (v := (1 : Int32)) C dX10_judge_36 (by decide) ?_
      refine G.goto (tgt := 41) C dX10_judge_37 (by decide) ?_
      exact G.sub [0, 1, 2] rfl (gb_X10_judge_67_41 hE C hr  h)
def bb_X10_judge_67_0 (x1 : Int32) (x2 : Int32) (M : Mm) : Option (Int32 × Mm) := ltv (wI M 67 0 (0 : Int32)) fun M_1 => bd (f_X10_isLetter_67 x1 M_1) fun v_3 => if v_3 = 0 then (bb_X10_judge_67_19 x1 x2 (1 : Int32) M_1) else (bb_X10_judge_67_19 x1 x2 (0 : Int32) M_1)
set_option maxHeartbeats 4000000 in
set_option maxRecDepth 100000 in
theorem gb_X10_judge_67_0  {x1 : Int32} {x2 : Int32} {M : Mm} {v : Int32} {M' : Mm} (hE : Has shM (eH E)) (C : Cx RX10 cX10_judge 8 p (rmD 4) s m args meth c E) (hr : meth.sig.returnType = (some .int)) (h : bb_X10_judge_67_0 x1 x2 M = some (v, M')) : G p l e (rmD 4) s m args below meth c E 8 0 0 (QR below args s E 0 0 (some (.int v)) M') 0 [(0, .ref (eA E 67)), (1, .int x1), (2, .int x2)] [] M := by
  unfold bb_X10_judge_67_0 at h
  refine G.aload_n C 0 dX10_judge_0 rfl rfl ?_
  refine G.iconst (v := (0 : Int32)) C dX10_judge_1 (by decide) ?_
  obtain ⟨M_1, eM_1, h⟩ := ltv_ex h
  refine G.putI (k := 0) C k_X10 (sm_67 hE) rfl (by decide) tg_1431 rfl rfl dX10_judge_2 eM_1 ?_
  refine G.aload_n C 0 dX10_judge_5 rfl rfl ?_
  refine G.aload_n C 0 dX10_judge_6 rfl rfl ?_
  refine G.iload_n C 1 dX10_judge_7 rfl rfl ?_
  obtain ⟨v_3, hv_2, h⟩ := bd_ex h
  refine G.callV (rest := [.ref (eA E 67)]) C (s_X10_isLetter_67 hE  hv_2) ⟨tg_1699, tg_103, ok_X10_isLetter, Nat.le_of_ble_eq_true rfl, Nat.le_of_ble_eq_true rfl⟩ tg_1696 tg_1698 tg_62 (sm_67 hE) rfl rfl (Nat.le_of_ble_eq_true rfl) dX10_judge_8 ⟨Nat.le_refl 0, Nat.le_refl 0⟩ ?_
  refine G.if_ne (tgt := 18) C dX10_judge_11 (by decide) (fun hc => ?_) (fun hc => ?_)
  · have h := it_f h hc
    refine G.iconst (v := (0 : Int32)) C dX10_judge_18 (by decide) ?_
    exact G.sub [0, 1, 2] rfl (gb_X10_judge_67_19 hE C hr  h)
  · have h := it_t h hc
    refine G.iconst (v := (1 : Int32)) C dX10_judge_14 (by decide) ?_
    refine G.goto (tgt := 19) C dX10_judge_15 (by decide) ?_
    exact G.sub [0, 1, 2] rfl (gb_X10_judge_67_19 hE C hr  h)
def f_X10_judge_67 (x1 : Int32) (x2 : Int32) (M : Mm) : Option (Int32 × Mm) := bb_X10_judge_67_0 x1 x2 M
theorem s_X10_judge_67 {l : Launch} {E : Ev} {x1 : Int32} {x2 : Int32} {M : Mm} {v : Int32} {M' : Mm} (hE : Has shM (eH E)) (h : f_X10_judge_67 x1 x2 M = some (v, M')) : MetA l yX10_judge cX10_judge 8 (some .int) 4 E [.ref (eA E 67), .int x1, .int x2] M (some (.int v)) M' := by
  refine MetA.of (by decide +kernel) (Nat.le_of_ble_eq_true rfl) ?_
  intro p e s m below meth c C hr hnm
  exact G.sub [0, 1, 2] rfl (gb_X10_judge_67_0 hE C hr  h)
end
