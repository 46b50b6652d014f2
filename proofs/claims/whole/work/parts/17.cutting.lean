section
variable {p : Program} {l : Launch} {e : Env} {s : State} {m : MethodId} {args : Array Value} {below : List Frame} {meth : Method} {c : Code} {E : Ev}
def bb_X2_add_30_112 (x1 : Int32) (x2 : Int32) (x3 : Int32) (x5 : Int32) (M : Mm) : Option Mm := gd (inb x5 11) (ltv (wI M 31 (ix x5) x1) fun M_16 => gd (inb x5 11) (ltv (wI M_16 32 (ix x5) x2) fun M_18 => gd (inb x5 11) (ltv (wI M_18 33 (ix x5) x3) fun M_20 => ltv (wI M_20 30 3 ((M_20.1 30 3) + (1 : Int32))) fun M_21 => some M_21)))
set_option maxHeartbeats 4000000 in
set_option maxRecDepth 100000 in
theorem gb_X2_add_30_112  {x1 : Int32} {x2 : Int32} {x3 : Int32} {x5 : Int32} {M : Mm} {M' : Mm} (hE : Has shC (eH E)) (C : Cx RX2 cX2_add 6 p (rmD 1) s m args meth c E) (hr : meth.sig.returnType = none) (h : bb_X2_add_30_112 x1 x2 x3 x5 M = some M') : G p l e (rmD 1) s m args below meth c E 6 0 0 (QR below args s E 0 0 none M') 112 [(0, .ref (eA E 30)), (1, .int x1), (2, .int x2), (3, .int x3), (5, .int x5)] [] M := by
  unfold bb_X2_add_30_112 at h
  refine G.aload_n C 0 dX2_add_112 rfl rfl ?_
  refine G.getR (k := 0) C k_X2 (sc_30 hE) rfl (by decide) tg_271 dX2_add_113 ?_
  refine G.iload C 4 dX2_add_116 rfl ?_
  refine G.iload_n C 1 dX2_add_118 rfl rfl ?_
  obtain ⟨hg_15, h⟩ := gd_ex h
  obtain ⟨M_16, eM_16, h⟩ := ltv_ex h
  refine G.sI (j := (ix x5)) C (sc_31 hE) hg_15 rfl dX2_add_119 eM_16 ?_
  refine G.aload_n C 0 dX2_add_120 rfl rfl ?_
  refine G.getR (k := 1) C k_X2 (sc_30 hE) rfl (by decide) tg_272 dX2_add_121 ?_
  refine G.iload C 4 dX2_add_124 rfl ?_
  refine G.iload_n C 2 dX2_add_126 rfl rfl ?_
  obtain ⟨hg_17, h⟩ := gd_ex h
  obtain ⟨M_18, eM_18, h⟩ := ltv_ex h
  refine G.sI (j := (ix x5)) C (sc_32 hE) hg_17 rfl dX2_add_127 eM_18 ?_
  refine G.aload_n C 0 dX2_add_128 rfl rfl ?_
  refine G.getR (k := 2) C k_X2 (sc_30 hE) rfl (by decide) tg_273 dX2_add_129 ?_
  refine G.iload C 4 dX2_add_132 rfl ?_
  refine G.iload_n C 3 dX2_add_134 rfl rfl ?_
  obtain ⟨hg_19, h⟩ := gd_ex h
  obtain ⟨M_20, eM_20, h⟩ := ltv_ex h
  refine G.sI (j := (ix x5)) C (sc_33 hE) hg_19 rfl dX2_add_135 eM_20 ?_
  refine G.aload_n C 0 dX2_add_136 rfl rfl ?_
  refine G.dup C dX2_add_137 rfl ?_
  refine G.getI (k := 3) C k_X2 (sc_30 hE) rfl (by decide) tg_274 dX2_add_138 ?_
  refine G.iconst (v := (1 : Int32)) C dX2_add_141 (by decide) ?_
  refine G.iadd C dX2_add_142 ?_
  obtain ⟨M_21, eM_21, h⟩ := ltv_ex h
  refine G.putI (k := 3) C k_X2 (sc_30 hE) rfl (by decide) tg_274 rfl rfl dX2_add_143 eM_21 ?_
  cases h
  exact G.vret C hr dX2_add_146
def bb_X2_add_30_21 (k_21 : Int32 → Int32 → Int32 → Int32 → Int32 → Mm → Option Mm) (x1 : Int32) (x2 : Int32) (x3 : Int32) (x4 : Int32) (x5 : Int32) (M : Mm) : Option Mm := if x5 ≤ x4 then (bb_X2_add_30_112 x1 x2 x3 x5 M) else (if x5 ≤ 0 then (bb_X2_add_30_112 x1 x2 x3 x5 M) else (gd (inb (x5 - (1 : Int32)) 11) (gd (inb (x5 - (1 : Int32)) 11) (if ((M.1 32 (ix (x5 - (1 : Int32)))) * x3) ≤ (x2 * (M.1 33 (ix (x5 - (1 : Int32))))) then (bb_X2_add_30_112 x1 x2 x3 x5 M) else (gd (inb (x5 - (1 : Int32)) 11) (gd (inb x5 11) (ltv (wI M 31 (ix x5) (M.1 31 (ix (x5 - (1 : Int32))))) fun M_7 => gd (inb (x5 - (1 : Int32)) 11) (gd (inb x5 11) (ltv (wI M_7 32 (ix x5) (M_7.1 32 (ix (x5 - (1 : Int32))))) fun M_10 => gd (inb (x5 - (1 : Int32)) 11) (gd (inb x5 11) (ltv (wI M_10 33 (ix x5) (M_10.1 33 (ix (x5 - (1 : Int32))))) fun M_13 => ltv (x5 + (-1 : Int32)) fun x5_14 => k_21 x1 x2 x3 x4 x5_14 M_13)))))))))))
set_option maxHeartbeats 4000000 in
set_option maxRecDepth 100000 in
theorem gb_X2_add_30_21  {k_21 : Int32 → Int32 → Int32 → Int32 → Int32 → Mm → Option Mm} {x1 : Int32} {x2 : Int32} {x3 : Int32} {x4 : Int32} {x5 : Int32} {M : Mm} {M' : Mm} (hE : Has shC (eH E)) (C : Cx RX2 cX2_add 6 p (rmD 1) s m args meth c E) (hr : meth.sig.returnType = none) (hk_21 : ∀ (x1 : Int32) (x2 : Int32) (x3 : Int32) (x4 : Int32) (x5 : Int32) (M : Mm), k_21 x1 x2 x3 x4 x5 M = some M' → G p l e (rmD 1) s m args below meth c E 6 0 0 (QR below args s E 0 0 none M') 21 [(0, .ref (eA E 30)), (1, .int x1), (2, .int x2), (3, .int x3), (4, .int x4), (5, .int x5)] [] M) (h : bb_X2_add_30_21 k_21 x1 x2 x3 x4 x5 M = some M') : G p l e (rmD 1) s m args below meth c E 6 0 0 (QR below args s E 0 0 none M') 21 [(0, .ref (eA E 30)), (1, .int x1), (2, .int x2), (3, .int x3), (4, .int x4), (5, .int x5)] [] M := by
  unfold bb_X2_add_30_21 at h
  refine G.iload C 5 dX2_add_21 rfl ?_
  refine G.iload C 4 dX2_add_23 rfl ?_
  refine G.icmp_le (tgt := 112) C dX2_add_25 (by decide) (fun hc => ?_) (fun hc => ?_)
  · have h := it_t h hc
    exact G.sub [0, 1, 2, 3, 5] rfl (gb_X2_add_30_112 hE C hr  h)
  · have h := it_f h hc
    refine G.iload C 5 dX2_add_28 rfl ?_
    refine G.if_le (tgt := 112) C dX2_add_30 (by decide) (fun hc => ?_) (fun hc => ?_)
    · have h := it_t h hc
      exact G.sub [0, 1, 2, 3, 5] rfl (gb_X2_add_30_112 hE C hr  h)
    · have h := it_f h hc
      refine G.iload_n C 2 dX2_add_33 rfl rfl ?_
      refine G.aload_n C 0 dX2_add_34 rfl rfl ?_
      refine G.getR (k := 2) C k_X2 (sc_30 hE) rfl (by decide) tg_273 dX2_add_35 ?_
      refine G.iload C 5 dX2_add_38 rfl ?_
      refine G.iconst (v := (1 : Int32)) C dX2_add_40 (by decide) ?_
      refine G.isub C dX2_add_41 ?_
      obtain ⟨hg_3, h⟩ := gd_ex h
      refine G.aI (j := ix (x5 - (1 : Int32))) C (sc_33 hE) hg_3 rfl dX2_add_42 ?_
      refine G.imul C dX2_add_43 ?_
      refine G.aload_n C 0 dX2_add_44 rfl rfl ?_
      refine G.getR (k := 1) C k_X2 (sc_30 hE) rfl (by decide) tg_272 dX2_add_45 ?_
      refine G.iload C 5 dX2_add_48 rfl ?_
      refine G.iconst (v := (1 : Int32)) C dX2_add_50 (by decide) ?_
      refine G.isub C dX2_add_51 ?_
      obtain ⟨hg_4, h⟩ := gd_ex h
      refine G.aI (j := ix (x5 - (1 : Int32))) C (sc_32 hE) hg_4 rfl dX2_add_52 ?_
      refine G.iload_n C 3 dX2_add_53 rfl rfl ?_
      refine G.imul C dX2_add_54 ?_
      refine G.icmp_ge (tgt := 112) C dX2_add_55 (by decide) (fun hc => ?_) (fun hc => ?_)
      · have h := it_t h hc
        exact G.sub [0, 1, 2, 3, 5] rfl (gb_X2_add_30_112 hE C hr  h)
      · have h := it_f h hc
        refine G.aload_n C 0 dX2_add_58 rfl rfl ?_
        refine G.getR (k := 0) C k_X2 (sc_30 hE) rfl (by decide) tg_271 dX2_add_59 ?_
        refine G.iload C 5 dX2_add_62 rfl ?_
        refine G.aload_n C 0 dX2_add_64 rfl rfl ?_
        refine G.getR (k := 0) C k_X2 (sc_30 hE) rfl (by decide) tg_271 dX2_add_65 ?_
        refine G.iload C 5 dX2_add_68 rfl ?_
        refine G.iconst (v := (1 : Int32)) C dX2_add_70 (by decide) ?_
        refine G.isub C dX2_add_71 ?_
        obtain ⟨hg_5, h⟩ := gd_ex h
        refine G.aI (j := ix (x5 - (1 : Int32))) C (sc_31 hE) hg_5 rfl dX2_add_72 ?_
        obtain ⟨hg_6, h⟩ := gd_ex h
        obtain ⟨M_7, eM_7, h⟩ := ltv_ex h
        refine G.sI (j := (ix x5)) C (sc_31 hE) hg_6 rfl dX2_add_73 eM_7 ?_
        refine G.aload_n C 0 dX2_add_74 rfl rfl ?_
        refine G.getR (k := 1) C k_X2 (sc_30 hE) rfl (by decide) tg_272 dX2_add_75 ?_
        refine G.iload C 5 dX2_add_78 rfl ?_
        refine G.aload_n C 0 dX2_add_80 rfl rfl ?_
        refine G.getR (k := 1) C k_X2 (sc_30 hE) rfl (by decide) tg_272 dX2_add_81 ?_
        refine G.iload C 5 dX2_add_84 rfl ?_
        refine G.iconst (v := (1 : Int32)) C dX2_add_86 (by decide) ?_
        refine G.isub C dX2_add_87 ?_
        obtain ⟨hg_8, h⟩ := gd_ex h
        refine G.aI (j := ix (x5 - (1 : Int32))) C (sc_32 hE) hg_8 rfl dX2_add_88 ?_
        obtain ⟨hg_9, h⟩ := gd_ex h
        obtain ⟨M_10, eM_10, h⟩ := ltv_ex h
        refine G.sI (j := (ix x5)) C (sc_32 hE) hg_9 rfl dX2_add_89 eM_10 ?_
        refine G.aload_n C 0 dX2_add_90 rfl rfl ?_
        refine G.getR (k := 2) C k_X2 (sc_30 hE) rfl (by decide) tg_273 dX2_add_91 ?_
        refine G.iload C 5 dX2_add_94 rfl ?_
        refine G.aload_n C 0 dX2_add_96 rfl rfl ?_
        refine G.getR (k := 2) C k_X2 (sc_30 hE) rfl (by decide) tg_273 dX2_add_97 ?_
        refine G.iload C 5 dX2_add_100 rfl ?_
        refine G.iconst (v := (1 : Int32)) C dX2_add_102 (by decide) ?_
        refine G.isub C dX2_add_103 ?_
        obtain ⟨hg_11, h⟩ := gd_ex h
        refine G.aI (j := ix (x5 - (1 : Int32))) C (sc_33 hE) hg_11 rfl dX2_add_104 ?_
        obtain ⟨hg_12, h⟩ := gd_ex h
        obtain ⟨M_13, eM_13, h⟩ := ltv_ex h
        refine G.sI (j := (ix x5)) C (sc_33 hE) hg_12 rfl dX2_add_105 eM_13 ?_
        obtain ⟨x5_14, ex5_14, h⟩ := ltv_ex h
        refine G.iinc (L' := [(5, .int x5_14), (0, .ref (eA E 30)), (1, .int x1), (2, .int x2), (3, .int x3), (4, .int x4)]) C 5 dX2_add_106 rfl (ex5_14.trans rfl) (by decide) rfl ?_
        refine G.goto (tgt := 21) C dX2_add_109 (by decide) ?_
        exact G.sub [1, 2, 3, 4, 5, 0] rfl (hk_21 _ _ _ _ _ _  h)
def b_X2_add_30_21 : Nat → Int32 → Int32 → Int32 → Int32 → Int32 → Mm → Option Mm
  | 0, _, _, _, _, _, _ => none
  | n + 1, x1, x2, x3, x4, x5, M => bb_X2_add_30_21 (b_X2_add_30_21 n) x1 x2 x3 x4 x5 M
set_option maxHeartbeats 4000000 in
theorem g_X2_add_30_21  {n : Nat} {x1 : Int32} {x2 : Int32} {x3 : Int32} {x4 : Int32} {x5 : Int32} {M : Mm} {M' : Mm} (hE : Has shC (eH E)) (C : Cx RX2 cX2_add 6 p (rmD 1) s m args meth c E) (hr : meth.sig.returnType = none) (h : b_X2_add_30_21 n x1 x2 x3 x4 x5 M = some M') : G p l e (rmD 1) s m args below meth c E 6 0 0 (QR below args s E 0 0 none M') 21 [(0, .ref (eA E 30)), (1, .int x1), (2, .int x2), (3, .int x3), (4, .int x4), (5, .int x5)] [] M := by
  induction n generalizing x1 x2 x3 x4 x5 M with
  | zero => cases h
  | succ n ih => exact gb_X2_add_30_21 hE C hr (fun _ _ _ _ _ _ => ih)  h
def bb_X2_add_30_0 (x1 : Int32) (x2 : Int32) (x3 : Int32) (x4 : Int32) (M : Mm) : Option Mm := if (M.1 30 3) < (11 : Int32) then (ltv (M.1 30 3) fun x5_1 => b_X2_add_30_21 FU x1 x2 x3 x4 x5_1 M) else (ltv (wI M 30 5 (1 : Int32)) fun M_2 => some M_2)
set_option maxHeartbeats 4000000 in
set_option maxRecDepth 100000 in
theorem gb_X2_add_30_0  {x1 : Int32} {x2 : Int32} {x3 : Int32} {x4 : Int32} {M : Mm} {M' : Mm} (hE : Has shC (eH E)) (C : Cx RX2 cX2_add 6 p (rmD 1) s m args meth c E) (hr : meth.sig.returnType = none) (h : bb_X2_add_30_0 x1 x2 x3 x4 M = some M') : G p l e (rmD 1) s m args below meth c E 6 0 0 (QR below args s E 0 0 none M') 0 [(0, .ref (eA E 30)), (1, .int x1), (2, .int x2), (3, .int x3), (4, .int x4)] [] M := by
  unfold bb_X2_add_30_0 at h
  refine G.aload_n C 0 dX2_add_0 rfl rfl ?_
  refine G.getI (k := 3) C k_X2 (sc_30 hE) rfl (by decide) tg_274 dX2_add_1 ?_
  refine G.bipush (v := (11 : Int32)) C dX2_add_4 (by decide) ?_
  refine G.icmp_lt (tgt := 15) C dX2_add_6 (by decide) (fun hc => ?_) (fun hc => ?_)
  · have h := it_t h hc
    refine G.aload_n C 0 dX2_add_15 rfl rfl ?_
    refine G.getI (k := 3) C k_X2 (sc_30 hE) rfl (by decide) tg_274 dX2_add_16 ?_
    obtain ⟨x5_1, ex5_1, h⟩ := ltv_ex h
    refine G.istore (L' := [(5, .int x5_1), (0, .ref (eA E 30)), (1, .int x1), (2, .int x2), (3, .int x3), (4, .int x4)]) C dX2_add_19 ex5_1 (by decide) rfl ?_
    exact G.sub [1, 2, 3, 4, 5, 0] rfl (g_X2_add_30_21 hE C hr  h)
  · have h := it_f h hc
    refine G.aload_n C 0 dX2_add_9 rfl rfl ?_
    refine G.iconst (v := (1 : Int32)) C dX2_add_10 (by decide) ?_
    obtain ⟨M_2, eM_2, h⟩ := ltv_ex h
    refine G.putZ (k := 5) C k_X2 (sc_30 hE) rfl (by decide) tg_276 rfl rfl (by decide) dX2_add_11 eM_2 ?_
    cases h
    exact G.vret C hr dX2_add_14
def f_X2_add_30 (x1 : Int32) (x2 : Int32) (x3 : Int32) (x4 : Int32) (M : Mm) : Option Mm := bb_X2_add_30_0 x1 x2 x3 x4 M
theorem s_X2_add_30 {l : Launch} {E : Ev} {x1 : Int32} {x2 : Int32} {x3 : Int32} {x4 : Int32} {M : Mm} {M' : Mm} (hE : Has shC (eH E)) (h : f_X2_add_30 x1 x2 x3 x4 M = some M') : MetA l yX2_add cX2_add 6 none 1 E [.ref (eA E 30), .int x1, .int x2, .int x3, .int x4] M none M' := by
  refine MetA.of (by decide +kernel) (Nat.le_of_ble_eq_true rfl) ?_
  intro p e s m below meth c C hr hnm
  exact G.sub [0, 1, 2, 3, 4] rfl (gb_X2_add_30_0 hE C hr  h)
def bb_X2_lay_30_11_13 (k_13 : Int32 → Int32 → Int32 → Mm → Option Mm) (x2 : Int32) (x3 : Int32) (x4 : Int32) (M : Mm) : Option Mm := if (M.1 11 9) ≤ x4 then (ltv (wI M 30 4 (M.1 30 3)) fun M_3 => some M_3) else (gd (inb x4 16) (if (M.1 18 (ix x4)) = x2 then (gd (inb x4 16) (bd (f_J13_bitCount_95d88 (M.2 17 (ix x4))) fun v_8 => bd (f_X2_add_30 x4 v_8 (if (x3 + (v_8 / (4 : Int32))) < (15 : Int32) then (x3 + (v_8 / (4 : Int32))) else (15 : Int32)) (0 : Int32) M) fun M_10 => ltv (x4 + (1 : Int32)) fun x4_11 => k_13 x2 x3 x4_11 M_10)) else (ltv (x4 + (1 : Int32)) fun x4_5 => k_13 x2 x3 x4_5 M)))
set_option maxHeartbeats 4000000 in
set_option maxRecDepth 100000 in
theorem gb_X2_lay_30_11_13  {k_13 : Int32 → Int32 → Int32 → Mm → Option Mm} {x2 : Int32} {x3 : Int32} {x4 : Int32} {M : Mm} {M' : Mm} (hE : Has shC (eH E)) (C : Cx RX2 cX2_lay 6 p (rmD 2) s m args meth c E) (hr : meth.sig.returnType = none) (hk_13 : ∀ (x2 : Int32) (x3 : Int32) (x4 : Int32) (M : Mm), k_13 x2 x3 x4 M = some M' → G p l e (rmD 2) s m args below meth c E 6 0 0 (QR below args s E 0 0 none M') 13 [(0, .ref (eA E 30)), (1, .ref (eA E 11)), (2, .int x2), (3, .int x3), (4, .int x4)] [] M) (h : bb_X2_lay_30_11_13 k_13 x2 x3 x4 M = some M') : G p l e (rmD 2) s m args below meth c E 6 0 0 (QR below args s E 0 0 none M') 13 [(0, .ref (eA E 30)), (1, .ref (eA E 11)), (2, .int x2), (3, .int x3), (4, .int x4)] [] M := by
  unfold bb_X2_lay_30_11_13 at h
  refine G.iload C 4 dX2_lay_13 rfl ?_
  refine G.aload_n C 1 dX2_lay_15 rfl rfl ?_
  refine G.getIN (k := 9) C k_X7 (sc_11 hE) rfl (by decide) tw_168 dX2_lay_16 ?_
  refine G.icmp_ge (tgt := 71) C dX2_lay_19 (by decide) (fun hc => ?_) (fun hc => ?_)
  · have h := it_t h hc
    refine G.aload_n C 0 dX2_lay_71 rfl rfl ?_
    refine G.aload_n C 0 dX2_lay_72 rfl rfl ?_
    refine G.getI (k := 3) C k_X2 (sc_30 hE) rfl (by decide) tg_274 dX2_lay_73 ?_
    obtain ⟨M_3, eM_3, h⟩ := ltv_ex h
    refine G.putI (k := 4) C k_X2 (sc_30 hE) rfl (by decide) tg_275 rfl rfl dX2_lay_76 eM_3 ?_
    cases h
    exact G.vret C hr dX2_lay_79
  · have h := it_f h hc
    refine G.aload_n C 1 dX2_lay_22 rfl rfl ?_
    refine G.getRN (k := 6) C k_X7 (sc_11 hE) rfl (by decide) tw_154 dX2_lay_23 ?_
    refine G.iload C 4 dX2_lay_26 rfl ?_
    obtain ⟨hg_4, h⟩ := gd_ex h
    refine G.aI (j := ix x4) C (sc_18 hE) hg_4 rfl dX2_lay_28 ?_
    refine G.iload_n C 2 dX2_lay_29 rfl rfl ?_
    refine G.icmp_ne (tgt := 65) C dX2_lay_30 (by decide) (fun hc => ?_) (fun hc => ?_)
    · have h := it_f h hc
      obtain ⟨x4_5, ex4_5, h⟩ := ltv_ex h
      refine G.iinc (L' := [(4, .int x4_5), (0, .ref (eA E 30)), (1, .ref (eA E 11)), (2, .int x2), (3, .int x3)]) C 4 dX2_lay_65 rfl (ex4_5.trans rfl) (by decide) rfl ?_
      refine G.goto (tgt := 13) C dX2_lay_68 (by decide) ?_
      exact G.sub [1, 2, 3, 4, 0] rfl (hk_13 _ _ _ _  h)
    · have h := it_t h hc
      refine G.aload_n C 1 dX2_lay_33 rfl rfl ?_
      refine G.getRN (k := 5) C k_X7 (sc_11 hE) rfl (by decide) tw_150 dX2_lay_34 ?_
      refine G.iload C 4 dX2_lay_37 rfl ?_
      obtain ⟨hg_6, h⟩ := gd_ex h
      refine G.aJ (j := ix x4) C (sc_17 hE) hg_6 rfl dX2_lay_39 ?_
      obtain ⟨v_8, hv_7, h⟩ := bd_ex h
      refine G.callS (rest := []) C (s_J13_bitCount_95d88  hv_7) ⟨tg_457, tg_102, ok_J13_bitCount_95d88, Nat.le_of_ble_eq_true rfl, Nat.le_of_ble_eq_true rfl⟩ tg_1143 tg_456 rfl (Nat.le_of_ble_eq_true rfl) dX2_lay_40 ⟨Nat.le_refl 0, Nat.le_refl 0⟩ ?_
      refine G.istore (L' := [(5, .int v_8), (0, .ref (eA E 30)), (1, .ref (eA E 11)), (2, .int x2), (3, .int x3), (4, .int x4)]) C dX2_lay_43 rfl (by decide) rfl ?_
      refine G.aload_n C 1 dX2_lay_45 rfl rfl ?_
      refine G.iload C 5 dX2_lay_46 rfl ?_
      refine G.iload C 0 dX2_lay_48 rfl ?_
      refine G.bipush (v := (15 : Int32)) C dX2_lay_50 (by decide) ?_
      refine G.iload_n C 4 dX2_lay_52 rfl rfl ?_
      refine G.iload C 0 dX2_lay_53 rfl ?_
      refine G.iconst (v := (4 : Int32)) C dX2_lay_55 (by decide) ?_
      refine G.idiv C dX2_lay_56 (by decide) ?_
      refine G.iadd C dX2_lay_57 ?_
      refine G.mmin (rest := [.int v_8, .int x4, .ref (eA E 30)]) C tg_1144 tg_421 tg_100 tg_422 ⟨Nat.le_of_ble_eq_true rfl, Nat.le_of_ble_eq_true rfl⟩ (Nat.le_of_ble_eq_true rfl) ⟨Nat.le_refl 0, Nat.le_refl 0⟩ dX2_lay_58 ?_
      refine G.iconst (v := (0 : Int32)) C dX2_lay_61 (by decide) ?_
      obtain ⟨M_10, hv_9, h⟩ := bd_ex h
      refine G.callV (rest := []) C (s_X2_add_30 hE  hv_9) ⟨tg_1148, tg_95, ok_X2_add, Nat.le_of_ble_eq_true rfl, Nat.le_of_ble_eq_true rfl⟩ tg_1145 tg_1147 tg_29 (sc_30 hE) rfl rfl (Nat.le_of_ble_eq_true rfl) dX2_lay_62 ⟨Nat.le_refl 0, Nat.le_refl 0⟩ ?_
      obtain ⟨x4_11, ex4_11, h⟩ := ltv_ex h
      refine G.iinc (L' := [(4, .int x4_11), (5, .int v_8), (0, .ref (eA E 30)), (1, .ref (eA E 11)), (2, .int x2), (3, .int x3)]) C 5 dX2_lay_65 rfl (ex4_11.trans rfl) (by decide) rfl ?_
      refine G.goto (tgt := 13) C dX2_lay_68 (by decide) ?_
      exact G.sub [2, 3, 4, 5, 0] rfl (hk_13 _ _ _ _  h)
def b_X2_lay_30_11_13 : Nat → Int32 → Int32 → Int32 → Mm → Option Mm
  | 0, _, _, _, _ => none
  | n + 1, x2, x3, x4, M => bb_X2_lay_30_11_13 (b_X2_lay_30_11_13 n) x2 x3 x4 M
set_option maxHeartbeats 4000000 in
theorem g_X2_lay_30_11_13  {n : Nat} {x2 : Int32} {x3 : Int32} {x4 : Int32} {M : Mm} {M' : Mm} (hE : Has shC (eH E)) (C : Cx RX2 cX2_lay 6 p (rmD 2) s m args meth c E) (hr : meth.sig.returnType = none) (h : b_X2_lay_30_11_13 n x2 x3 x4 M = some M') : G p l e (rmD 2) s m args below meth c E 6 0 0 (QR below args s E 0 0 none M') 13 [(0, .ref (eA E 30)), (1, .ref (eA E 11)), (2, .int x2), (3, .int x3), (4, .int x4)] [] M := by
  induction n generalizing x2 x3 x4 M with
  | zero => cases h
  | succ n ih => exact gb_X2_lay_30_11_13 hE C hr (fun _ _ _ _ => ih)  h
def bb_X2_lay_30_11_0 (x2 : Int32) (x3 : Int32) (M : Mm) : Option Mm := ltv (wI M 30 3 (0 : Int32)) fun M_1 => ltv (wI M_1 30 5 (0 : Int32)) fun M_2 => b_X2_lay_30_11_13 FU x2 x3 (0 : Int32) M_2
set_option maxHeartbeats 4000000 in
set_option maxRecDepth 100000 in
theorem gb_X2_lay_30_11_0  {x2 : Int32} {x3 : Int32} {M : Mm} {M' : Mm} (hE : Has shC (eH E)) (C : Cx RX2 cX2_lay 6 p (rmD 2) s m args meth c E) (hr : meth.sig.returnType = none) (h : bb_X2_lay_30_11_0 x2 x3 M = some M') : G p l e (rmD 2) s m args below meth c E 6 0 0 (QR below args s E 0 0 none M') 0 [(0, .ref (eA E 30)), (1, .ref (eA E 11)), (2, .int x2), (3, .int x3)] [] M := by
  unfold bb_X2_lay_30_11_0 at h
  refine G.aload_n C 0 dX2_lay_0 rfl rfl ?_
  refine G.iconst (v := (0 : Int32)) C dX2_lay_1 (by decide) ?_
  obtain ⟨M_1, eM_1, h⟩ := ltv_ex h
  refine G.putI (k := 3) C k_X2 (sc_30 hE) rfl (by decide) tg_274 rfl rfl dX2_lay_2 eM_1 ?_
  refine G.aload_n C 0 dX2_lay_5 rfl rfl ?_
  refine G.iconst (v := (0 : Int32)) C dX2_lay_6 (by decide) ?_
  obtain ⟨M_2, eM_2, h⟩ := ltv_ex h
  refine G.putZ (k := 5) C k_X2 (sc_30 hE) rfl (by decide) tg_276 rfl rfl (by decide) dX2_lay_7 eM_2 ?_
  refine G.iconst (v := (0 : Int32)) C dX2_lay_10 (by decide) ?_
  refine G.istore (L' := [(4, .int (0 : Int32)), (0, .ref (eA E 30)), (1, .ref (eA E 11)), (2, .int x2), (3, .int x3)]) C dX2_lay_11 rfl (by decide) rfl ?_
  exact G.sub [1, 2, 3, 4, 0] rfl (g_X2_lay_30_11_13 hE C hr  h)
def f_X2_lay_30_11 (x2 : Int32) (x3 : Int32) (M : Mm) : Option Mm := bb_X2_lay_30_11_0 x2 x3 M
theorem s_X2_lay_30_11 {l : Launch} {E : Ev} {x2 : Int32} {x3 : Int32} {M : Mm} {M' : Mm} (hE : Has shC (eH E)) (h : f_X2_lay_30_11 x2 x3 M = some M') : MetA l yX2_lay cX2_lay 6 none 2 E [.ref (eA E 30), .ref (eA E 11), .int x2, .int x3] M none M' := by
  refine MetA.of (by decide +kernel) (Nat.le_of_ble_eq_true rfl) ?_
  intro p e s m below meth c C hr hnm
  exact G.sub [0, 1, 2, 3] rfl (gb_X2_lay_30_11_0 hE C hr  h)
def bb_X2_layBites_30_19_3 (k_3 : Int64 → Int32 → Int32 → Mm → Option Mm) (x2 : Int64) (x4 : Int32) (x5 : Int32) (M : Mm) : Option Mm := if (32 : Int32) ≤ x5 then (some M) else (if (x2 &&& (shL (1 : Int64) x5)) = (0 : Int64) then (ltv (x5 + (1 : Int32)) fun x5_1 => k_3 x2 x4 x5_1 M) else (bd (f_X3_takenBy_19 x5 M) fun v_3 => bd (f_J13_bitCount_95d88 v_3) fun v_5 => bd (f_X2_add_30 ((100 : Int32) + x5) v_5 x4 (M.1 30 4) M) fun M_7 => ltv (x5 + (1 : Int32)) fun x5_8 => k_3 x2 x4 x5_8 M_7))
set_option maxHeartbeats 4000000 in
set_option maxRecDepth 100000 in
theorem gb_X2_layBites_30_19_3  {k_3 : Int64 → Int32 → Int32 → Mm → Option Mm} {x2 : Int64} {x4 : Int32} {x5 : Int32} {M : Mm} {M' : Mm} (hE : Has shC (eH E)) (C : Cx RX2 cX2_layBites 6 p (rmD 2) s m args meth c E) (hr : meth.sig.returnType = none) (hk_3 : ∀ (x2 : Int64) (x4 : Int32) (x5 : Int32) (M : Mm), k_3 x2 x4 x5 M = some M' → G p l e (rmD 2) s m args below meth c E 6 0 0 (QR below args s E 0 0 none M') 3 [(0, .ref (eA E 30)), (1, .ref (eA E 19)), (2, .long x2), (4, .int x4), (5, .int x5)] [] M) (h : bb_X2_layBites_30_19_3 k_3 x2 x4 x5 M = some M') : G p l e (rmD 2) s m args below meth c E 6 0 0 (QR below args s E 0 0 none M') 3 [(0, .ref (eA E 30)), (1, .ref (eA E 19)), (2, .long x2), (4, .int x4), (5, .int x5)] [] M := by
  unfold bb_X2_layBites_30_19_3 at h
  refine G.iload C 4 dX2_layBites_3 rfl ?_
  refine G.bipush (v := (32 : Int32)) C dX2_layBites_5 (by decide) ?_
  refine G.icmp_ge (tgt := 51) C dX2_layBites_7 (by decide) (fun hc => ?_) (fun hc => ?_)
  · have h := it_t h hc
    cases h
    exact G.vret C hr dX2_layBites_51
  · have h := it_f h hc
    refine G.lload_n C 2 dX2_layBites_10 rfl rfl ?_
    refine G.lconst (v := (1 : Int64)) C dX2_layBites_11 (by decide) ?_
    refine G.iload C 4 dX2_layBites_12 rfl ?_
    refine G.lshl (v := shL (1 : Int64) x5) C dX2_layBites_14 rfl ?_
    refine G.land C dX2_layBites_15 ?_
    refine G.lconst (v := (0 : Int64)) C dX2_layBites_16 (by decide) ?_
    refine G.lcmp C dX2_layBites_17 (G.if_eq (tgt := 45) C dX2_layBites_18 (by decide) (fun hc => ?_) (fun hc => ?_))
    · have h := it_t h (lgc_eq.mp hc)
      obtain ⟨x5_1, ex5_1, h⟩ := ltv_ex h
      refine G.iinc (L' := [(5, .int x5_1), (0, .ref (eA E 30)), (1, .ref (eA E 19)), (2, .long x2), (4, .int x4)]) C 4 dX2_layBites_45 rfl (ex5_1.trans rfl) (by decide) rfl ?_
      refine G.goto (tgt := 3) C dX2_layBites_48 (by decide) ?_
      exact G.sub [1, 2, 3, 4, 0] rfl (hk_3 _ _ _ _  h)
    · have h := it_f h ((not_congr lgc_eq).mp hc)
      refine G.aload_n C 0 dX2_layBites_21 rfl rfl ?_
      refine G.bipush (v := (100 : Int32)) C dX2_layBites_22 (by decide) ?_
      refine G.iload C 4 dX2_layBites_24 rfl ?_
      refine G.iadd C dX2_layBites_26 ?_
      refine G.aload_n C 1 dX2_layBites_27 rfl rfl ?_
      refine G.iload C 4 dX2_layBites_28 rfl ?_
      obtain ⟨v_3, hv_2, h⟩ := bd_ex h
      refine G.callV (rest := [.int ((100 : Int32) + x5), .ref (eA E 30)]) C (s_X3_takenBy_19 hE  hv_2) ⟨tg_1156, tg_93, ok_X3_takenBy, Nat.le_of_ble_eq_true rfl, Nat.le_of_ble_eq_true rfl⟩ tg_1153 tg_1154 tg_1155 (sc_19 hE) rfl rfl (Nat.le_of_ble_eq_true rfl) dX2_layBites_30 ⟨Nat.le_refl 0, Nat.le_refl 0⟩ ?_
      obtain ⟨v_5, hv_4, h⟩ := bd_ex h
      refine G.callS (rest := [.int ((100 : Int32) + x5), .ref (eA E 30)]) C (s_J13_bitCount_95d88  hv_4) ⟨tg_457, tg_102, ok_J13_bitCount_95d88, Nat.le_of_ble_eq_true rfl, Nat.le_of_ble_eq_true rfl⟩ tg_1143 tg_456 rfl (Nat.le_of_ble_eq_true rfl) dX2_layBites_33 ⟨Nat.le_refl 0, Nat.le_refl 0⟩ ?_
      refine G.iload C 3 dX2_layBites_36 rfl ?_
      refine G.aload_n C 0 dX2_layBites_38 rfl rfl ?_
      refine G.getI (k := 4) C k_X2 (sc_30 hE) rfl (by decide) tg_275 dX2_layBites_39 ?_
      obtain ⟨M_7, hv_6, h⟩ := bd_ex h
      refine G.callV (rest := []) C (s_X2_add_30 hE  hv_6) ⟨tg_1148, tg_95, ok_X2_add, Nat.le_of_ble_eq_true rfl, Nat.le_of_ble_eq_true rfl⟩ tg_1145 tg_1147 tg_29 (sc_30 hE) rfl rfl (Nat.le_of_ble_eq_true rfl) dX2_layBites_42 ⟨Nat.le_refl 0, Nat.le_refl 0⟩ ?_
      obtain ⟨x5_8, ex5_8, h⟩ := ltv_ex h
      refine G.iinc (L' := [(5, .int x5_8), (0, .ref (eA E 30)), (1, .ref (eA E 19)), (2, .long x2), (4, .int x4)]) C 4 dX2_layBites_45 rfl (ex5_8.trans rfl) (by decide) rfl ?_
      refine G.goto (tgt := 3) C dX2_layBites_48 (by decide) ?_
      exact G.sub [1, 2, 3, 4, 0] rfl (hk_3 _ _ _ _  h)
def b_X2_layBites_30_19_3 : Nat → Int64 → Int32 → Int32 → Mm → Option Mm
  | 0, _, _, _, _ => none
  | n + 1, x2, x4, x5, M => bb_X2_layBites_30_19_3 (b_X2_layBites_30_19_3 n) x2 x4 x5 M
set_option maxHeartbeats 4000000 in
theorem g_X2_layBites_30_19_3  {n : Nat} {x2 : Int64} {x4 : Int32} {x5 : Int32} {M : Mm} {M' : Mm} (hE : Has shC (eH E)) (C : Cx RX2 cX2_layBites 6 p (rmD 2) s m args meth c E) (hr : meth.sig.returnType = none) (h : b_X2_layBites_30_19_3 n x2 x4 x5 M = some M') : G p l e (rmD 2) s m args below meth c E 6 0 0 (QR below args s E 0 0 none M') 3 [(0, .ref (eA E 30)), (1, .ref (eA E 19)), (2, .long x2), (4, .int x4), (5, .int x5)] [] M := by
  induction n generalizing x2 x4 x5 M with
  | zero => cases h
  | succ n ih => exact gb_X2_layBites_30_19_3 hE C hr (fun _ _ _ _ => ih)  h
def bb_X2_layBites_30_19_0 (x2 : Int64) (x4 : Int32) (M : Mm) : Option Mm := b_X2_layBites_30_19_3 FU x2 x4 (0 : Int32) M
set_option maxHeartbeats 4000000 in
set_option maxRecDepth 100000 in
theorem gb_X2_layBites_30_19_0  {x2 : Int64} {x4 : Int32} {M : Mm} {M' : Mm} (hE : Has shC (eH E)) (C : Cx RX2 cX2_layBites 6 p (rmD 2) s m args meth c E) (hr : meth.sig.returnType = none) (h : bb_X2_layBites_30_19_0 x2 x4 M = some M') : G p l e (rmD 2) s m args below meth c E 6 0 0 (QR below args s E 0 0 none M') 0 [(0, .ref (eA E 30)), (1, .ref (eA E 19)), (2, .long x2), (4, .int x4)] [] M := by
  unfold bb_X2_layBites_30_19_0 at h
  refine G.iconst (v := (0 : Int32)) C dX2_layBites_0 (by decide) ?_
  refine G.istore (L' := [(5, .int (0 : Int32)), (0, .ref (eA E 30)), (1, .ref (eA E 19)), (2, .long x2), (4, .int x4)]) C dX2_layBites_1 rfl (by decide) rfl ?_
  exact G.sub [1, 2, 3, 4, 0] rfl (g_X2_layBites_30_19_3 hE C hr  h)
def f_X2_layBites_30_19 (x2 : Int64) (x4 : Int32) (M : Mm) : Option Mm := bb_X2_layBites_30_19_0 x2 x4 M
theorem s_X2_layBites_30_19 {l : Launch} {E : Ev} {x2 : Int64} {x4 : Int32} {M : Mm} {M' : Mm} (hE : Has shC (eH E)) (h : f_X2_layBites_30_19 x2 x4 M = some M') : MetA l yX2_layBites cX2_layBites 6 none 2 E [.ref (eA E 30), .ref (eA E 19), .long x2, .int x4] M none M' := by
  refine MetA.of (by decide +kernel) (Nat.le_of_ble_eq_true rfl) ?_
  intro p e s m below meth c C hr hnm
  exact G.sub [0, 1, 2, 3] rfl (gb_X2_layBites_30_19_0 hE C hr  h)
def bb_X2_actAt_30_0 (x1 : Int32) (M : Mm) : Option Int32 := if (M.1 30 5) = 0 then (if x1 < 0 then (some (-1 : Int32)) else (if x1 < (M.1 30 3) then (gd (inb x1 11) (some (M.1 31 (ix x1)))) else (some (-1 : Int32)))) else (some (-1 : Int32))
set_option maxHeartbeats 4000000 in
set_option maxRecDepth 100000 in
theorem gb_X2_actAt_30_0  {x1 : Int32} {M : Mm} {v : Int32} (hE : Has shC (eH E)) (C : Cx RX2 cX2_actAt 2 p (rmD 1) s m args meth c E) (hr : meth.sig.returnType = (some .int)) (h : bb_X2_actAt_30_0 x1 M = some v) : G p l e (rmD 1) s m args below meth c E 2 0 0 (QR below args s E 0 0 (some (.int v)) M) 0 [(0, .ref (eA E 30)), (1, .int x1)] [] M := by
  unfold bb_X2_actAt_30_0 at h
  refine G.aload_n C 0 dX2_actAt_0 rfl rfl ?_
  refine G.getZ (k := 5) C k_X2 (sc_30 hE) rfl (by decide) tg_276 dX2_actAt_1 ?_
  refine G.if_ne (tgt := 19) C dX2_actAt_4 (by decide) (fun hc => ?_) (fun hc => ?_)
  · have h := it_f h hc
    refine G.iconst (v := (-1 : Int32)) C dX2_actAt_19 (by decide) ?_
    refine G.goto (tgt := 29) C dX2_actAt_20 (by decide) ?_
    cases h
    exact G.iret C hr dX2_actAt_29
  · have h := it_t h hc
    refine G.iload_n C 1 dX2_actAt_7 rfl rfl ?_
    refine G.if_lt (tgt := 19) C dX2_actAt_8 (by decide) (fun hc => ?_) (fun hc => ?_)
    · have h := it_t h hc
      refine G.iconst (v := (-1 : Int32)) C dX2_actAt_19 (by decide) ?_
      refine G.goto (tgt := 29) C dX2_actAt_20 (by decide) ?_
      cases h
      exact G.iret C hr dX2_actAt_29
    · have h := it_f h hc
      refine G.iload_n C 1 dX2_actAt_11 rfl rfl ?_
      refine G.aload_n C 0 dX2_actAt_12 rfl rfl ?_
      refine G.getI (k := 3) C k_X2 (sc_30 hE) rfl (by decide) tg_274 dX2_actAt_13 ?_
      refine G.icmp_lt (tgt := 23) C dX2_actAt_16 (by decide) (fun hc => ?_) (fun hc => ?_)
      · have h := it_t h hc
        refine G.aload_n C 0 dX2_actAt_23 rfl rfl ?_
        refine G.getR (k := 0) C k_X2 (sc_30 hE) rfl (by decide) tg_271 dX2_actAt_24 ?_
        refine G.iload_n C 1 dX2_actAt_27 rfl rfl ?_
        obtain ⟨hg_1, h⟩ := gd_ex h
        refine G.aI (j := ix x1) C (sc_31 hE) hg_1 rfl dX2_actAt_28 ?_
        cases h
        exact G.iret C hr dX2_actAt_29
      · have h := it_f h hc
        refine G.iconst (v := (-1 : Int32)) C dX2_actAt_19 (by decide) ?_
        refine G.goto (tgt := 29) C dX2_actAt_20 (by decide) ?_
        cases h
        exact G.iret C hr dX2_actAt_29
def f_X2_actAt_30 (x1 : Int32) (M : Mm) : Option Int32 := bb_X2_actAt_30_0 x1 M
theorem s_X2_actAt_30 {l : Launch} {E : Ev} {x1 : Int32} {M : Mm} {v : Int32} (hE : Has shC (eH E)) (h : f_X2_actAt_30 x1 M = some v) : MetA l yX2_actAt cX2_actAt 2 (some .int) 1 E [.ref (eA E 30), .int x1] M (some (.int v)) M := by
  refine MetA.of (by decide +kernel) (Nat.le_of_ble_eq_true rfl) ?_
  intro p e s m below meth c C hr hnm
  exact G.sub [0, 1] rfl (gb_X2_actAt_30_0 hE C hr  h)
def bb_X2_whole_30_0  (M : Mm) : Option Int64 := some (shL (1 : Int64) ((4 : Int32) * (M.1 30 3)))
set_option maxHeartbeats 4000000 in
set_option maxRecDepth 100000 in
theorem gb_X2_whole_30_0   {M : Mm} {v : Int64} (hE : Has shC (eH E)) (C : Cx RX2 cX2_whole 1 p (rmD 1) s m args meth c E) (hr : meth.sig.returnType = (some .long)) (h : bb_X2_whole_30_0 M = some v) : G p l e (rmD 1) s m args below meth c E 1 0 0 (QR below args s E 0 0 (some (.long v)) M) 0 [(0, .ref (eA E 30))] [] M := by
  unfold bb_X2_whole_30_0 at h
  refine G.lconst (v := (1 : Int64)) C dX2_whole_0 (by decide) ?_
  refine G.iconst (v := (4 : Int32)) C dX2_whole_1 (by decide) ?_
  refine G.aload_n C 0 dX2_whole_2 rfl rfl ?_
  refine G.getI (k := 3) C k_X2 (sc_30 hE) rfl (by decide) tg_274 dX2_whole_3 ?_
  refine G.imul C dX2_whole_6 ?_
  refine G.lshl (v := shL (1 : Int64) ((4 : Int32) * (M.1 30 3))) C dX2_whole_7 rfl ?_
  cases h
  exact G.lret C hr dX2_whole_8
def f_X2_whole_30  (M : Mm) : Option Int64 := bb_X2_whole_30_0 M
theorem s_X2_whole_30 {l : Launch} {E : Ev}  {M : Mm} {v : Int64} (hE : Has shC (eH E)) (h : f_X2_whole_30 M = some v) : MetA l yX2_whole cX2_whole 1 (some .long) 1 E [.ref (eA E 30)] M (some (.long v)) M := by
  refine MetA.of (by decide +kernel) (Nat.le_of_ble_eq_true rfl) ?_
  intro p e s m below meth c C hr hnm
  exact G.sub [0] rfl (gb_X2_whole_30_0 hE C hr  h)
def bb_X2_allWell_30_4 (k_4 : Int64 → Int32 → Mm → Option Int64) (x1 : Int64) (x3 : Int32) (M : Mm) : Option Int64 := if (M.1 30 3) ≤ x3 then (some (if x1 < (1 : Int64) then (1 : Int64) else x1)) else (gd (inb x3 11) (ltv (x1 * (((16 : Int32) - (M.1 33 (ix x3))).toInt64)) fun x1_2 => ltv (x3 + (1 : Int32)) fun x3_3 => k_4 x1_2 x3_3 M))
set_option maxHeartbeats 4000000 in
set_option maxRecDepth 100000 in
theorem gb_X2_allWell_30_4  {k_4 : Int64 → Int32 → Mm → Option Int64} {x1 : Int64} {x3 : Int32} {M : Mm} {v : Int64} (hE : Has shC (eH E)) (C : Cx RX2 cX2_allWell 4 p (rmD 1) s m args meth c E) (hr : meth.sig.returnType = (some .long)) (hk_4 : ∀ (x1 : Int64) (x3 : Int32) (M : Mm), k_4 x1 x3 M = some v → G p l e (rmD 1) s m args below meth c E 4 0 0 (QR below args s E 0 0 (some (.long v)) M) 4 [(0, .ref (eA E 30)), (1, .long x1), (3, .int x3)] [] M) (h : bb_X2_allWell_30_4 k_4 x1 x3 M = some v) : G p l e (rmD 1) s m args below meth c E 4 0 0 (QR below args s E 0 0 (some (.long v)) M) 4 [(0, .ref (eA E 30)), (1, .long x1), (3, .int x3)] [] M := by
  unfold bb_X2_allWell_30_4 at h
  refine G.iload_n C 2 dX2_allWell_4 rfl rfl ?_
  refine G.aload_n C 0 dX2_allWell_5 rfl rfl ?_
  refine G.getI (k := 3) C k_X2 (sc_30 hE) rfl (by decide) tg_274 dX2_allWell_6 ?_
  refine G.icmp_ge (tgt := 31) C dX2_allWell_9 (by decide) (fun hc => ?_) (fun hc => ?_)
  · have h := it_t h hc
    refine G.lconst (v := (1 : Int64)) C dX2_allWell_31 (by decide) ?_
    refine G.lload_n C 1 dX2_allWell_32 rfl rfl ?_
    refine G.mmaxL (rest := []) C tg_1172 tg_1173 tg_100 tg_1174 ⟨Nat.le_of_ble_eq_true rfl, Nat.le_of_ble_eq_true rfl⟩ (Nat.le_of_ble_eq_true rfl) ⟨Nat.le_refl 0, Nat.le_refl 0⟩ dX2_allWell_33 ?_
    cases h
    exact G.lret C hr dX2_allWell_36
  · have h := it_f h hc
    refine G.lload_n C 1 dX2_allWell_12 rfl rfl ?_
    refine G.bipush (v := (16 : Int32)) C dX2_allWell_13 (by decide) ?_
    refine G.aload_n C 0 dX2_allWell_15 rfl rfl ?_
    refine G.getR (k := 2) C k_X2 (sc_30 hE) rfl (by decide) tg_273 dX2_allWell_16 ?_
    refine G.iload_n C 2 dX2_allWell_19 rfl rfl ?_
    obtain ⟨hg_1, h⟩ := gd_ex h
    refine G.aI (j := ix x3) C (sc_33 hE) hg_1 rfl dX2_allWell_20 ?_
    refine G.isub C dX2_allWell_21 ?_
    refine G.i2l (v := ((16 : Int32) - (M.1 33 (ix x3))).toInt64) C dX2_allWell_22 rfl ?_
    refine G.lmul C dX2_allWell_23 ?_
    obtain ⟨x1_2, ex1_2, h⟩ := ltv_ex h
    refine G.lstore_n (L' := [(1, .long x1_2), (0, .ref (eA E 30)), (3, .int x3)]) C dX2_allWell_24 rfl ex1_2 (by decide) rfl ?_
    obtain ⟨x3_3, ex3_3, h⟩ := ltv_ex h
    refine G.iinc (L' := [(3, .int x3_3), (1, .long x1_2), (0, .ref (eA E 30))]) C 2 dX2_allWell_25 rfl (ex3_3.trans rfl) (by decide) rfl ?_
    refine G.goto (tgt := 4) C dX2_allWell_28 (by decide) ?_
    exact G.sub [2, 1, 0] rfl (hk_4 _ _ _  h)
def b_X2_allWell_30_4 : Nat → Int64 → Int32 → Mm → Option Int64
  | 0, _, _, _ => none
  | n + 1, x1, x3, M => bb_X2_allWell_30_4 (b_X2_allWell_30_4 n) x1 x3 M
set_option maxHeartbeats 4000000 in
theorem g_X2_allWell_30_4  {n : Nat} {x1 : Int64} {x3 : Int32} {M : Mm} {v : Int64} (hE : Has shC (eH E)) (C : Cx RX2 cX2_allWell 4 p (rmD 1) s m args meth c E) (hr : meth.sig.returnType = (some .long)) (h : b_X2_allWell_30_4 n x1 x3 M = some v) : G p l e (rmD 1) s m args below meth c E 4 0 0 (QR below args s E 0 0 (some (.long v)) M) 4 [(0, .ref (eA E 30)), (1, .long x1), (3, .int x3)] [] M := by
  induction n generalizing x1 x3 M with
  | zero => cases h
  | succ n ih => exact gb_X2_allWell_30_4 hE C hr (fun _ _ _ => ih)  h
def bb_X2_allWell_30_0  (M : Mm) : Option Int64 := b_X2_allWell_30_4 FU (1 : Int64) (0 : Int32) M
set_option maxHeartbeats 4000000 in
set_option maxRecDepth 100000 in
theorem gb_X2_allWell_30_0   {M : Mm} {v : Int64} (hE : Has shC (eH E)) (C : Cx RX2 cX2_allWell 4 p (rmD 1) s m args meth c E) (hr : meth.sig.returnType = (some .long)) (h : bb_X2_allWell_30_0 M = some v) : G p l e (rmD 1) s m args below meth c E 4 0 0 (QR below args s E 0 0 (some (.long v)) M) 0 [(0, .ref (eA E 30))] [] M := by
  unfold bb_X2_allWell_30_0 at h
  refine G.lconst (v := (1 : Int64)) C dX2_allWell_0 (by decide) ?_
  refine G.lstore_n (L' := [(1, .long (1 : Int64)), (0, .ref (eA E 30))]) C dX2_allWell_1 rfl rfl (by decide) rfl ?_
  refine G.iconst (v := (0 : Int32)) C dX2_allWell_2 (by decide) ?_
  refine G.istore_n (L' := [(3, .int (0 : Int32)), (1, .long (1 : Int64)), (0, .ref (eA E 30))]) C dX2_allWell_3 rfl rfl (by decide) rfl ?_
  exact G.sub [2, 1, 0] rfl (g_X2_allWell_30_4 hE C hr  h)
def f_X2_allWell_30  (M : Mm) : Option Int64 := bb_X2_allWell_30_0 M
theorem s_X2_allWell_30 {l : Launch} {E : Ev}  {M : Mm} {v : Int64} (hE : Has shC (eH E)) (h : f_X2_allWell_30 M = some v) : MetA l yX2_allWell cX2_allWell 4 (some .long) 1 E [.ref (eA E 30)] M (some (.long v)) M := by
  refine MetA.of (by decide +kernel) (Nat.le_of_ble_eq_true rfl) ?_
  intro p e s m below meth c C hr hnm
  exact G.sub [0] rfl (gb_X2_allWell_30_0 hE C hr  h)
def bb_X2_mean_30_21 (k_21 : Int64 → Int64 → Int32 → Mm → Option Int64) (x1 : Int64) (x3 : Int64) (x5 : Int32) (M : Mm) : Option Int64 := if (M.1 30 3) ≤ x5 then (bd (f_X2_allWell_30 M) fun v_4 => gd (decide (¬ v_4 = 0)) (some (((1000 : Int64) * x3) / v_4))) else (gd (inb x5 11) (ltv (x3 + (((M.1 32 (ix x5)).toInt64) * x1)) fun x3_7 => gd (inb x5 11) (ltv ((x1 / (16 : Int64)) * (((16 : Int32) - (M.1 33 (ix x5))).toInt64)) fun x1_9 => ltv (x5 + (1 : Int32)) fun x5_10 => k_21 x1_9 x3_7 x5_10 M)))
set_option maxHeartbeats 4000000 in
set_option maxRecDepth 100000 in
theorem gb_X2_mean_30_21  {k_21 : Int64 → Int64 → Int32 → Mm → Option Int64} {x1 : Int64} {x3 : Int64} {x5 : Int32} {M : Mm} {v : Int64} (hE : Has shC (eH E)) (C : Cx RX2 cX2_mean 6 p (rmD 2) s m args meth c E) (hr : meth.sig.returnType = (some .long)) (hk_21 : ∀ (x1 : Int64) (x3 : Int64) (x5 : Int32) (M : Mm), k_21 x1 x3 x5 M = some v → G p l e (rmD 2) s m args below meth c E 6 0 0 (QR below args s E 0 0 (some (.long v)) M) 21 [(0, .ref (eA E 30)), (1, .long x1), (3, .long x3), (5, .int x5)] [] M) (h : bb_X2_mean_30_21 k_21 x1 x3 x5 M = some v) : G p l e (rmD 2) s m args below meth c E 6 0 0 (QR below args s E 0 0 (some (.long v)) M) 21 [(0, .ref (eA E 30)), (1, .long x1), (3, .long x3), (5, .int x5)] [] M := by
  unfold bb_X2_mean_30_21 at h
  refine G.iload C 3 dX2_mean_21 rfl ?_
  refine G.aload_n C 0 dX2_mean_23 rfl rfl ?_
  refine G.getI (k := 3) C k_X2 (sc_30 hE) rfl (by decide) tg_274 dX2_mean_24 ?_
  refine G.icmp_ge (tgt := 67) C dX2_mean_27 (by decide) (fun hc => ?_) (fun hc => ?_)
  · have h := it_t h hc
    refine G.ldc2 C tg_1167 dX2_mean_67 ?_
    refine G.lload_n C 2 dX2_mean_70 rfl rfl ?_
    refine G.lmul C dX2_mean_71 ?_
    refine G.aload_n C 0 dX2_mean_72 rfl rfl ?_
    obtain ⟨v_4, hv_3, h⟩ := bd_ex h
    refine G.callV (rest := [.long ((1000 : Int64) * x3)]) C (s_X2_allWell_30 hE  hv_3) ⟨tg_1171, tg_95, ok_X2_allWell, Nat.le_of_ble_eq_true rfl, Nat.le_of_ble_eq_true rfl⟩ tg_1168 tg_1170 tg_31 (sc_30 hE) rfl rfl (Nat.le_of_ble_eq_true rfl) dX2_mean_73 ⟨Nat.le_refl 0, Nat.le_refl 0⟩ ?_
    obtain ⟨hn_5, h⟩ := gd_ex h
    refine G.ldiv C dX2_mean_76 (of_decide_eq_true hn_5) ?_
    cases h
    exact G.lret C hr dX2_mean_77
  · have h := it_f h hc
    refine G.lload_n C 2 dX2_mean_30 rfl rfl ?_
    refine G.aload_n C 0 dX2_mean_31 rfl rfl ?_
    refine G.getR (k := 1) C k_X2 (sc_30 hE) rfl (by decide) tg_272 dX2_mean_32 ?_
    refine G.iload C 3 dX2_mean_35 rfl ?_
    obtain ⟨hg_6, h⟩ := gd_ex h
    refine G.aI (j := ix x5) C (sc_32 hE) hg_6 rfl dX2_mean_37 ?_
    refine G.i2l (v := (M.1 32 (ix x5)).toInt64) C dX2_mean_38 rfl ?_
    refine G.lload_n C 1 dX2_mean_39 rfl rfl ?_
    refine G.lmul C dX2_mean_40 ?_
    refine G.ladd C dX2_mean_41 ?_
    obtain ⟨x3_7, ex3_7, h⟩ := ltv_ex h
    refine G.lstore_n (L' := [(3, .long x3_7), (0, .ref (eA E 30)), (1, .long x1), (5, .int x5)]) C dX2_mean_42 rfl ex3_7 (by decide) rfl ?_
    refine G.lload_n C 2 dX2_mean_43 rfl rfl ?_
    refine G.ldc2 C tg_1166 dX2_mean_44 ?_
    refine G.ldiv C dX2_mean_47 (by decide) ?_
    refine G.bipush (v := (16 : Int32)) C dX2_mean_48 (by decide) ?_
    refine G.aload_n C 1 dX2_mean_50 rfl rfl ?_
    refine G.getR (k := 2) C k_X2 (sc_30 hE) rfl (by decide) tg_273 dX2_mean_51 ?_
    refine G.iload C 3 dX2_mean_54 rfl ?_
    obtain ⟨hg_8, h⟩ := gd_ex h
    refine G.aI (j := ix x5) C (sc_33 hE) hg_8 rfl dX2_mean_56 ?_
    refine G.isub C dX2_mean_57 ?_
    refine G.i2l (v := ((16 : Int32) - (M.1 33 (ix x5))).toInt64) C dX2_mean_58 rfl ?_
    refine G.lmul C dX2_mean_59 ?_
    obtain ⟨x1_9, ex1_9, h⟩ := ltv_ex h
    refine G.lstore_n (L' := [(1, .long x1_9), (3, .long x3_7), (0, .ref (eA E 30)), (5, .int x5)]) C dX2_mean_60 rfl ex1_9 (by decide) rfl ?_
    obtain ⟨x5_10, ex5_10, h⟩ := ltv_ex h
    refine G.iinc (L' := [(5, .int x5_10), (1, .long x1_9), (3, .long x3_7), (0, .ref (eA E 30))]) C 3 dX2_mean_61 rfl (ex5_10.trans rfl) (by decide) rfl ?_
    refine G.goto (tgt := 21) C dX2_mean_64 (by decide) ?_
    exact G.sub [3, 1, 2, 0] rfl (hk_21 _ _ _ _  h)
def b_X2_mean_30_21 : Nat → Int64 → Int64 → Int32 → Mm → Option Int64
  | 0, _, _, _, _ => none
  | n + 1, x1, x3, x5, M => bb_X2_mean_30_21 (b_X2_mean_30_21 n) x1 x3 x5 M
set_option maxHeartbeats 4000000 in
theorem g_X2_mean_30_21  {n : Nat} {x1 : Int64} {x3 : Int64} {x5 : Int32} {M : Mm} {v : Int64} (hE : Has shC (eH E)) (C : Cx RX2 cX2_mean 6 p (rmD 2) s m args meth c E) (hr : meth.sig.returnType = (some .long)) (h : b_X2_mean_30_21 n x1 x3 x5 M = some v) : G p l e (rmD 2) s m args below meth c E 6 0 0 (QR below args s E 0 0 (some (.long v)) M) 21 [(0, .ref (eA E 30)), (1, .long x1), (3, .long x3), (5, .int x5)] [] M := by
  induction n generalizing x1 x3 x5 M with
  | zero => cases h
  | succ n ih => exact gb_X2_mean_30_21 hE C hr (fun _ _ _ _ => ih)  h
def bb_X2_mean_30_0  (M : Mm) : Option Int64 := if (M.1 30 5) = 0 then (bd (f_X2_whole_30 M) fun v_2 => b_X2_mean_30_21 FU v_2 (0 : Int64) (0 : Int32) M) else (some (-1 : Int64))
set_option maxHeartbeats 4000000 in
set_option maxRecDepth 100000 in
theorem gb_X2_mean_30_0   {M : Mm} {v : Int64} (hE : Has shC (eH E)) (C : Cx RX2 cX2_mean 6 p (rmD 2) s m args meth c E) (hr : meth.sig.returnType = (some .long)) (h : bb_X2_mean_30_0 M = some v) : G p l e (rmD 2) s m args below meth c E 6 0 0 (QR below args s E 0 0 (some (.long v)) M) 0 [(0, .ref (eA E 30))] [] M := by
  unfold bb_X2_mean_30_0 at h
  refine G.aload_n C 0 dX2_mean_0 rfl rfl ?_
  refine G.getZ (k := 5) C k_X2 (sc_30 hE) rfl (by decide) tg_276 dX2_mean_1 ?_
  refine G.if_eq (tgt := 11) C dX2_mean_4 (by decide) (fun hc => ?_) (fun hc => ?_)
  · have h := it_t h hc
    refine G.aload_n C 0 dX2_mean_11 rfl rfl ?_
    obtain ⟨v_2, hv_1, h⟩ := bd_ex h
    refine G.callV (rest := []) C (s_X2_whole_30 hE  hv_1) ⟨tg_1165, tg_95, ok_X2_whole, Nat.le_of_ble_eq_true rfl, Nat.le_of_ble_eq_true rfl⟩ tg_1162 tg_1164 tg_30 (sc_30 hE) rfl rfl (Nat.le_of_ble_eq_true rfl) dX2_mean_12 ⟨Nat.le_refl 0, Nat.le_refl 0⟩ ?_
    refine G.lstore_n (L' := [(1, .long v_2), (0, .ref (eA E 30))]) C dX2_mean_15 rfl rfl (by decide) rfl ?_
    refine G.lconst (v := (0 : Int64)) C dX2_mean_16 (by decide) ?_
    refine G.lstore_n (L' := [(3, .long (0 : Int64)), (1, .long v_2), (0, .ref (eA E 30))]) C dX2_mean_17 rfl rfl (by decide) rfl ?_
    refine G.iconst (v := (0 : Int32)) C dX2_mean_18 (by decide) ?_
    refine G.istore (L' := [(5, .int (0 : Int32)), (3, .long (0 : Int64)), (1, .long v_2), (0, .ref (eA E 30))]) C dX2_mean_19 rfl (by decide) rfl ?_
    exact G.sub [3, 2, 1, 0] rfl (g_X2_mean_30_21 hE C hr  h)
  · have h := it_f h hc
    refine G.ldc2 C tg_1161 dX2_mean_7 ?_
    cases h
    exact G.lret C hr dX2_mean_10
def f_X2_mean_30  (M : Mm) : Option Int64 := bb_X2_mean_30_0 M
theorem s_X2_mean_30 {l : Launch} {E : Ev}  {M : Mm} {v : Int64} (hE : Has shC (eH E)) (h : f_X2_mean_30 M = some v) : MetA l yX2_mean cX2_mean 6 (some .long) 2 E [.ref (eA E 30)] M (some (.long v)) M := by
  refine MetA.of (by decide +kernel) (Nat.le_of_ble_eq_true rfl) ?_
  intro p e s m below meth c C hr hnm
  exact G.sub [0] rfl (gb_X2_mean_30_0 hE C hr  h)
def bb_X2_begun_30_0  (M : Mm) : Option Int64 := if (M.1 30 5) = 0 then (bd (f_X2_whole_30 M) fun v_2 => bd (f_X2_allWell_30 M) fun v_4 => gd (decide (¬ v_4 = 0)) (some (((1000 : Int64) * v_2) / v_4))) else (some (-1 : Int64))
set_option maxHeartbeats 4000000 in
set_option maxRecDepth 100000 in
theorem gb_X2_begun_30_0   {M : Mm} {v : Int64} (hE : Has shC (eH E)) (C : Cx RX2 cX2_begun 1 p (rmD 2) s m args meth c E) (hr : meth.sig.returnType = (some .long)) (h : bb_X2_begun_30_0 M = some v) : G p l e (rmD 2) s m args below meth c E 1 0 0 (QR below args s E 0 0 (some (.long v)) M) 0 [(0, .ref (eA E 30))] [] M := by
  unfold bb_X2_begun_30_0 at h
  refine G.aload_n C 0 dX2_begun_0 rfl rfl ?_
  refine G.getZ (k := 5) C k_X2 (sc_30 hE) rfl (by decide) tg_276 dX2_begun_1 ?_
  refine G.if_eq (tgt := 13) C dX2_begun_4 (by decide) (fun hc => ?_) (fun hc => ?_)
  · have h := it_t h hc
    refine G.ldc2 C tg_1167 dX2_begun_13 ?_
    refine G.aload_n C 0 dX2_begun_16 rfl rfl ?_
    obtain ⟨v_2, hv_1, h⟩ := bd_ex h
    refine G.callV (rest := [.long (1000 : Int64)]) C (s_X2_whole_30 hE  hv_1) ⟨tg_1165, tg_95, ok_X2_whole, Nat.le_of_ble_eq_true rfl, Nat.le_of_ble_eq_true rfl⟩ tg_1162 tg_1164 tg_30 (sc_30 hE) rfl rfl (Nat.le_of_ble_eq_true rfl) dX2_begun_17 ⟨Nat.le_refl 0, Nat.le_refl 0⟩ ?_
    refine G.lmul C dX2_begun_20 ?_
    refine G.aload_n C 0 dX2_begun_21 rfl rfl ?_
    obtain ⟨v_4, hv_3, h⟩ := bd_ex h
    refine G.callV (rest := [.long ((1000 : Int64) * v_2)]) C (s_X2_allWell_30 hE  hv_3) ⟨tg_1171, tg_95, ok_X2_allWell, Nat.le_of_ble_eq_true rfl, Nat.le_of_ble_eq_true rfl⟩ tg_1168 tg_1170 tg_31 (sc_30 hE) rfl rfl (Nat.le_of_ble_eq_true rfl) dX2_begun_22 ⟨Nat.le_refl 0, Nat.le_refl 0⟩ ?_
    obtain ⟨hn_5, h⟩ := gd_ex h
    refine G.ldiv C dX2_begun_25 (of_decide_eq_true hn_5) ?_
    cases h
    exact G.lret C hr dX2_begun_26
  · have h := it_f h hc
    refine G.ldc2 C tg_1161 dX2_begun_7 ?_
    refine G.goto (tgt := 26) C dX2_begun_10 (by decide) ?_
    cases h
    exact G.lret C hr dX2_begun_26
def f_X2_begun_30  (M : Mm) : Option Int64 := bb_X2_begun_30_0 M
theorem s_X2_begun_30 {l : Launch} {E : Ev}  {M : Mm} {v : Int64} (hE : Has shC (eH E)) (h : f_X2_begun_30 M = some v) : MetA l yX2_begun cX2_begun 1 (some .long) 2 E [.ref (eA E 30)] M (some (.long v)) M := by
  refine MetA.of (by decide +kernel) (Nat.le_of_ble_eq_true rfl) ?_
  intro p e s m below meth c C hr hnm
  exact G.sub [0] rfl (gb_X2_begun_30_0 hE C hr  h)
end
