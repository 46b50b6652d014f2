section
variable {p : Program} {l : Launch} {e : Env} {s : State} {m : MethodId} {args : Array Value} {below : List Frame} {meth : Method} {c : Code} {E : Ev}
def bb_X3_lay_19_70 (k_17 : Int64 → Int32 → Int64 → Int32 → Mm → Option Mm) (x1 : Int64) (x3 : Int32) (x4 : Int64) (x6 : Int32) (x7 : Int64) (s0 : Int32) (M : Mm) : Option Mm := if s0 = 0 then (gd (inb (((8 : Int32) * x3) + x6) 32) (ltv (wJ M 20 (ix (((8 : Int32) * x3) + x6)) (x4 &&& x7)) fun M_5 => ltv (x6 + (1 : Int32)) fun x6_6 => k_17 x1 x3 x4 x6_6 M_5)) else (gd (inb (((8 : Int32) * x3) + x6) 32) (ltv (wJ M 20 (ix (((8 : Int32) * x3) + x6)) (0 : Int64)) fun M_8 => ltv (x6 + (1 : Int32)) fun x6_9 => k_17 x1 x3 x4 x6_9 M_8))
set_option maxHeartbeats 4000000 in
set_option maxRecDepth 100000 in
theorem gb_X3_lay_19_70  {k_17 : Int64 → Int32 → Int64 → Int32 → Mm → Option Mm} {x1 : Int64} {x3 : Int32} {x4 : Int64} {x6 : Int32} {x7 : Int64} {s0 : Int32} {M : Mm} {M' : Mm} (hE : Has shC (eH E)) (C : Cx RX3 cX3_lay 10 p (rmD 3) s m args meth c E) (hr : meth.sig.returnType = none) (hk_17 : ∀ (x1 : Int64) (x3 : Int32) (x4 : Int64) (x6 : Int32) (M : Mm), k_17 x1 x3 x4 x6 M = some M' → G p l e (rmD 3) s m args below meth c E 10 0 0 (QR below args s E 0 0 none M') 17 [(0, .ref (eA E 19)), (1, .long x1), (3, .int x3), (4, .long x4), (6, .int x6)] [] M) (h : bb_X3_lay_19_70 k_17 x1 x3 x4 x6 x7 s0 M = some M') : G p l e (rmD 3) s m args below meth c E 10 0 0 (QR below args s E 0 0 none M') 70 [(0, .ref (eA E 19)), (1, .long x1), (3, .int x3), (4, .long x4), (6, .int x6), (7, .long x7)] [.int s0] M := by
  unfold bb_X3_lay_19_70 at h
  refine G.istore (L' := [(9, .int s0), (0, .ref (eA E 19)), (1, .long x1), (3, .int x3), (4, .long x4), (6, .int x6), (7, .long x7)]) C dX3_lay_70 rfl (by decide) rfl ?_
  refine G.aload_n C 1 dX3_lay_72 rfl rfl ?_
  refine G.getR (k := 0) C k_X3 (sc_19 hE) rfl (by decide) tg_227 dX3_lay_73 ?_
  refine G.bipush (v := (8 : Int32)) C dX3_lay_76 (by decide) ?_
  refine G.iload_n C 3 dX3_lay_78 rfl rfl ?_
  refine G.imul C dX3_lay_79 ?_
  refine G.iload C 5 dX3_lay_80 rfl ?_
  refine G.iadd C dX3_lay_82 ?_
  refine G.iload C 0 dX3_lay_83 rfl ?_
  refine G.if_eq (tgt := 92) C dX3_lay_85 (by decide) (fun hc => ?_) (fun hc => ?_)
  · have h := it_t h hc
    refine G.lload C 4 dX3_lay_92 rfl ?_
    refine G.lload C 6 dX3_lay_94 rfl ?_
    refine G.land C dX3_lay_96 ?_
    obtain ⟨hg_4, h⟩ := gd_ex h
    obtain ⟨M_5, eM_5, h⟩ := ltv_ex h
    refine G.sJ (j := (ix (((8 : Int32) * x3) + x6))) C (sc_20 hE) hg_4 rfl dX3_lay_97 eM_5 ?_
    obtain ⟨x6_6, ex6_6, h⟩ := ltv_ex h
    refine G.iinc (L' := [(6, .int x6_6), (9, .int s0), (0, .ref (eA E 19)), (1, .long x1), (3, .int x3), (4, .long x4), (7, .long x7)]) C 5 dX3_lay_98 rfl (ex6_6.trans rfl) (by decide) rfl ?_
    refine G.goto (tgt := 17) C dX3_lay_101 (by decide) ?_
    exact G.sub [2, 3, 4, 5, 0] rfl (hk_17 _ _ _ _ _  h)
  · have h := it_f h hc
    refine G.lconst (v := (0 : Int64)) C dX3_lay_88 (by decide) ?_
    refine G.goto (tgt := 97) C dX3_lay_89 (by decide) ?_
    obtain ⟨hg_7, h⟩ := gd_ex h
    obtain ⟨M_8, eM_8, h⟩ := ltv_ex h
    refine G.sJ (j := (ix (((8 : Int32) * x3) + x6))) C (sc_20 hE) hg_7 rfl dX3_lay_97 eM_8 ?_
    obtain ⟨x6_9, ex6_9, h⟩ := ltv_ex h
    refine G.iinc (L' := [(6, .int x6_9), (9, .int s0), (0, .ref (eA E 19)), (1, .long x1), (3, .int x3), (4, .long x4), (7, .long x7)]) C 5 dX3_lay_98 rfl (ex6_9.trans rfl) (by decide) rfl ?_
    refine G.goto (tgt := 17) C dX3_lay_101 (by decide) ?_
    exact G.sub [2, 3, 4, 5, 0] rfl (hk_17 _ _ _ _ _  h)
def bb_X3_lay_19_69 (k_17 : Int64 → Int32 → Int64 → Int32 → Mm → Option Mm) (x1 : Int64) (x3 : Int32) (x4 : Int64) (x6 : Int32) (x7 : Int64) (M : Mm) : Option Mm := bb_X3_lay_19_70 k_17 x1 x3 x4 x6 x7 (0 : Int32) M
set_option maxHeartbeats 4000000 in
set_option maxRecDepth 100000 in
theorem gb_X3_lay_19_69  {k_17 : Int64 → Int32 → Int64 → Int32 → Mm → Option Mm} {x1 : Int64} {x3 : Int32} {x4 : Int64} {x6 : Int32} {x7 : Int64} {M : Mm} {M' : Mm} (hE : Has shC (eH E)) (C : Cx RX3 cX3_lay 10 p (rmD 3) s m args meth c E) (hr : meth.sig.returnType = none) (hk_17 : ∀ (x1 : Int64) (x3 : Int32) (x4 : Int64) (x6 : Int32) (M : Mm), k_17 x1 x3 x4 x6 M = some M' → G p l e (rmD 3) s m args below meth c E 10 0 0 (QR below args s E 0 0 none M') 17 [(0, .ref (eA E 19)), (1, .long x1), (3, .int x3), (4, .long x4), (6, .int x6)] [] M) (h : bb_X3_lay_19_69 k_17 x1 x3 x4 x6 x7 M = some M') : G p l e (rmD 3) s m args below meth c E 10 0 0 (QR below args s E 0 0 none M') 69 [(0, .ref (eA E 19)), (1, .long x1), (3, .int x3), (4, .long x4), (6, .int x6), (7, .long x7)] [] M := by
  unfold bb_X3_lay_19_69 at h
  refine G.iconst (v := (0 : Int32)) C dX3_lay_69 (by decide) ?_
  exact G.sub [0, 1, 2, 3, 4, 5] rfl (gb_X3_lay_19_70 hE C hr hk_17  h)
def bb_X3_lay_19_47 (k_17 : Int64 → Int32 → Int64 → Int32 → Mm → Option Mm) (x1 : Int64) (x3 : Int32) (x4 : Int64) (x6 : Int32) (s0 : Int64) (M : Mm) : Option Mm := if (x3 &&& (1 : Int32)) = (1 : Int32) then (if (s0 &&& x1) = (0 : Int64) then (bb_X3_lay_19_70 k_17 x1 x3 x4 x6 s0 (1 : Int32) M) else (bb_X3_lay_19_69 k_17 x1 x3 x4 x6 s0 M)) else (bb_X3_lay_19_69 k_17 x1 x3 x4 x6 s0 M)
set_option maxHeartbeats 4000000 in
set_option maxRecDepth 100000 in
theorem gb_X3_lay_19_47  {k_17 : Int64 → Int32 → Int64 → Int32 → Mm → Option Mm} {x1 : Int64} {x3 : Int32} {x4 : Int64} {x6 : Int32} {s0 : Int64} {M : Mm} {M' : Mm} (hE : Has shC (eH E)) (C : Cx RX3 cX3_lay 10 p (rmD 3) s m args meth c E) (hr : meth.sig.returnType = none) (hk_17 : ∀ (x1 : Int64) (x3 : Int32) (x4 : Int64) (x6 : Int32) (M : Mm), k_17 x1 x3 x4 x6 M = some M' → G p l e (rmD 3) s m args below meth c E 10 0 0 (QR below args s E 0 0 none M') 17 [(0, .ref (eA E 19)), (1, .long x1), (3, .int x3), (4, .long x4), (6, .int x6)] [] M) (h : bb_X3_lay_19_47 k_17 x1 x3 x4 x6 s0 M = some M') : G p l e (rmD 3) s m args below meth c E 10 0 0 (QR below args s E 0 0 none M') 47 [(0, .ref (eA E 19)), (1, .long x1), (3, .int x3), (4, .long x4), (6, .int x6)] [.long s0] M := by
  unfold bb_X3_lay_19_47 at h
  refine G.lstore (L' := [(7, .long s0), (0, .ref (eA E 19)), (1, .long x1), (3, .int x3), (4, .long x4), (6, .int x6)]) C dX3_lay_47 rfl (by decide) rfl ?_
  refine G.iload_n C 3 dX3_lay_49 rfl rfl ?_
  refine G.iconst (v := (1 : Int32)) C dX3_lay_50 (by decide) ?_
  refine G.iand C dX3_lay_51 ?_
  refine G.iconst (v := (1 : Int32)) C dX3_lay_52 (by decide) ?_
  refine G.icmp_ne (tgt := 69) C dX3_lay_53 (by decide) (fun hc => ?_) (fun hc => ?_)
  · have h := it_f h hc
    exact G.sub [1, 2, 3, 4, 5, 0] rfl (gb_X3_lay_19_69 hE C hr hk_17  h)
  · have h := it_t h hc
    refine G.lload C 0 dX3_lay_56 rfl ?_
    refine G.lload_n C 2 dX3_lay_58 rfl rfl ?_
    refine G.land C dX3_lay_59 ?_
    refine G.lconst (v := (0 : Int64)) C dX3_lay_60 (by decide) ?_
    refine G.lcmp C dX3_lay_61 (G.if_ne (tgt := 69) C dX3_lay_62 (by decide) (fun hc => ?_) (fun hc => ?_))
    · have h := it_f h (lgc_ne.mp hc)
      exact G.sub [1, 2, 3, 4, 5, 0] rfl (gb_X3_lay_19_69 hE C hr hk_17  h)
    · have h := it_t h (lgc_eq.mp hc)
      refine G.iconst (v := (1 : Int32)) C dX3_lay_65 (by decide) ?_
      refine G.goto (tgt := 70) C dX3_lay_66 (by decide) ?_
      exact G.sub [1, 2, 3, 4, 5, 0] rfl (gb_X3_lay_19_70 hE C hr hk_17  h)
def bb_X3_lay_19_17 (k_2 : Int64 → Int32 → Mm → Option Mm) (k_17 : Int64 → Int32 → Int64 → Int32 → Mm → Option Mm) (x1 : Int64) (x3 : Int32) (x4 : Int64) (x6 : Int32) (M : Mm) : Option Mm := if (8 : Int32) ≤ x6 then (ltv (x3 + (1 : Int32)) fun x3_3 => k_2 x1 x3_3 M) else (if (2 : Int32) ≤ x3 then (bb_X3_lay_19_47 k_17 x1 x3 x4 x6 (shL (72340172838076673 : Int64) x6) M) else (bb_X3_lay_19_47 k_17 x1 x3 x4 x6 (shL (255 : Int64) ((8 : Int32) * x6)) M))
set_option maxHeartbeats 4000000 in
set_option maxRecDepth 100000 in
theorem gb_X3_lay_19_17  {k_2 : Int64 → Int32 → Mm → Option Mm} {k_17 : Int64 → Int32 → Int64 → Int32 → Mm → Option Mm} {x1 : Int64} {x3 : Int32} {x4 : Int64} {x6 : Int32} {M : Mm} {M' : Mm} (hE : Has shC (eH E)) (C : Cx RX3 cX3_lay 10 p (rmD 3) s m args meth c E) (hr : meth.sig.returnType = none) (hk_2 : ∀ (x1 : Int64) (x3 : Int32) (M : Mm), k_2 x1 x3 M = some M' → G p l e (rmD 3) s m args below meth c E 10 0 0 (QR below args s E 0 0 none M') 2 [(0, .ref (eA E 19)), (1, .long x1), (3, .int x3)] [] M) (hk_17 : ∀ (x1 : Int64) (x3 : Int32) (x4 : Int64) (x6 : Int32) (M : Mm), k_17 x1 x3 x4 x6 M = some M' → G p l e (rmD 3) s m args below meth c E 10 0 0 (QR below args s E 0 0 none M') 17 [(0, .ref (eA E 19)), (1, .long x1), (3, .int x3), (4, .long x4), (6, .int x6)] [] M) (h : bb_X3_lay_19_17 k_2 k_17 x1 x3 x4 x6 M = some M') : G p l e (rmD 3) s m args below meth c E 10 0 0 (QR below args s E 0 0 none M') 17 [(0, .ref (eA E 19)), (1, .long x1), (3, .int x3), (4, .long x4), (6, .int x6)] [] M := by
  unfold bb_X3_lay_19_17 at h
  refine G.iload C 4 dX3_lay_17 rfl ?_
  refine G.bipush (v := (8 : Int32)) C dX3_lay_19 (by decide) ?_
  refine G.icmp_ge (tgt := 104) C dX3_lay_21 (by decide) (fun hc => ?_) (fun hc => ?_)
  · have h := it_t h hc
    obtain ⟨x3_3, ex3_3, h⟩ := ltv_ex h
    refine G.iinc (L' := [(3, .int x3_3), (0, .ref (eA E 19)), (1, .long x1), (4, .long x4), (6, .int x6)]) C 2 dX3_lay_104 rfl (ex3_3.trans rfl) (by decide) rfl ?_
    refine G.goto (tgt := 2) C dX3_lay_107 (by decide) ?_
    exact G.sub [1, 2, 0] rfl (hk_2 _ _ _  h)
  · have h := it_f h hc
    refine G.iload_n C 2 dX3_lay_24 rfl rfl ?_
    refine G.iconst (v := (2 : Int32)) C dX3_lay_25 (by decide) ?_
    refine G.icmp_ge (tgt := 41) C dX3_lay_26 (by decide) (fun hc => ?_) (fun hc => ?_)
    · have h := it_t h hc
      refine G.ldc2 C tg_578 dX3_lay_41 ?_
      refine G.iload C 4 dX3_lay_44 rfl ?_
      refine G.lshl (v := shL (72340172838076673 : Int64) x6) C dX3_lay_46 rfl ?_
      exact G.sub [0, 1, 2, 3, 4] rfl (gb_X3_lay_19_47 hE C hr hk_17  h)
    · have h := it_f h hc
      refine G.ldc2 C tg_577 dX3_lay_29 ?_
      refine G.bipush (v := (8 : Int32)) C dX3_lay_32 (by decide) ?_
      refine G.iload C 4 dX3_lay_34 rfl ?_
      refine G.imul C dX3_lay_36 ?_
      refine G.lshl (v := shL (255 : Int64) ((8 : Int32) * x6)) C dX3_lay_37 rfl ?_
      refine G.goto (tgt := 47) C dX3_lay_38 (by decide) ?_
      exact G.sub [0, 1, 2, 3, 4] rfl (gb_X3_lay_19_47 hE C hr hk_17  h)
def b_X3_lay_19_17 (k_2 : Int64 → Int32 → Mm → Option Mm) : Nat → Int64 → Int32 → Int64 → Int32 → Mm → Option Mm
  | 0, _, _, _, _, _ => none
  | n + 1, x1, x3, x4, x6, M => bb_X3_lay_19_17 k_2 (b_X3_lay_19_17 k_2 n) x1 x3 x4 x6 M
set_option maxHeartbeats 4000000 in
theorem g_X3_lay_19_17  {k_2 : Int64 → Int32 → Mm → Option Mm} {n : Nat} {x1 : Int64} {x3 : Int32} {x4 : Int64} {x6 : Int32} {M : Mm} {M' : Mm} (hE : Has shC (eH E)) (C : Cx RX3 cX3_lay 10 p (rmD 3) s m args meth c E) (hr : meth.sig.returnType = none) (hk_2 : ∀ (x1 : Int64) (x3 : Int32) (M : Mm), k_2 x1 x3 M = some M' → G p l e (rmD 3) s m args below meth c E 10 0 0 (QR below args s E 0 0 none M') 2 [(0, .ref (eA E 19)), (1, .long x1), (3, .int x3)] [] M) (h : b_X3_lay_19_17 k_2 n x1 x3 x4 x6 M = some M') : G p l e (rmD 3) s m args below meth c E 10 0 0 (QR below args s E 0 0 none M') 17 [(0, .ref (eA E 19)), (1, .long x1), (3, .int x3), (4, .long x4), (6, .int x6)] [] M := by
  induction n generalizing x1 x3 x4 x6 M with
  | zero => cases h
  | succ n ih => exact gb_X3_lay_19_17 hE C hr hk_2 (fun _ _ _ _ _ => ih)  h
def bb_X3_lay_19_2 (k_2 : Int64 → Int32 → Mm → Option Mm) (x1 : Int64) (x3 : Int32) (M : Mm) : Option Mm := if (4 : Int32) ≤ x3 then (some M) else (bd (f_X4_reachedFrom x1 x3) fun v_2 => b_X3_lay_19_17 k_2 FU x1 x3 v_2 (0 : Int32) M)
set_option maxHeartbeats 4000000 in
set_option maxRecDepth 100000 in
theorem gb_X3_lay_19_2  {k_2 : Int64 → Int32 → Mm → Option Mm} {x1 : Int64} {x3 : Int32} {M : Mm} {M' : Mm} (hE : Has shC (eH E)) (C : Cx RX3 cX3_lay 10 p (rmD 3) s m args meth c E) (hr : meth.sig.returnType = none) (hk_2 : ∀ (x1 : Int64) (x3 : Int32) (M : Mm), k_2 x1 x3 M = some M' → G p l e (rmD 3) s m args below meth c E 10 0 0 (QR below args s E 0 0 none M') 2 [(0, .ref (eA E 19)), (1, .long x1), (3, .int x3)] [] M) (h : bb_X3_lay_19_2 k_2 x1 x3 M = some M') : G p l e (rmD 3) s m args below meth c E 10 0 0 (QR below args s E 0 0 none M') 2 [(0, .ref (eA E 19)), (1, .long x1), (3, .int x3)] [] M := by
  unfold bb_X3_lay_19_2 at h
  refine G.iload_n C 2 dX3_lay_2 rfl rfl ?_
  refine G.iconst (v := (4 : Int32)) C dX3_lay_3 (by decide) ?_
  refine G.icmp_ge (tgt := 110) C dX3_lay_4 (by decide) (fun hc => ?_) (fun hc => ?_)
  · have h := it_t h hc
    cases h
    exact G.vret C hr dX3_lay_110
  · have h := it_f h hc
    refine G.lload_n C 1 dX3_lay_7 rfl rfl ?_
    refine G.iload_n C 2 dX3_lay_8 rfl rfl ?_
    obtain ⟨v_2, hv_1, h⟩ := bd_ex h
    refine G.callS (rest := []) C (s_X4_reachedFrom  hv_1) ⟨tg_571, tg_101, ok_X4_reachedFrom, Nat.le_of_ble_eq_true rfl, Nat.le_of_ble_eq_true rfl⟩ tg_569 tg_570 rfl (Nat.le_of_ble_eq_true rfl) dX3_lay_9 ⟨Nat.le_refl 0, Nat.le_refl 0⟩ ?_
    refine G.lstore (L' := [(4, .long v_2), (0, .ref (eA E 19)), (1, .long x1), (3, .int x3)]) C dX3_lay_12 rfl (by decide) rfl ?_
    refine G.iconst (v := (0 : Int32)) C dX3_lay_14 (by decide) ?_
    refine G.istore (L' := [(6, .int (0 : Int32)), (4, .long v_2), (0, .ref (eA E 19)), (1, .long x1), (3, .int x3)]) C dX3_lay_15 rfl (by decide) rfl ?_
    exact G.sub [2, 3, 4, 1, 0] rfl (g_X3_lay_19_17 hE C hr hk_2  h)
def b_X3_lay_19_2 : Nat → Int64 → Int32 → Mm → Option Mm
  | 0, _, _, _ => none
  | n + 1, x1, x3, M => bb_X3_lay_19_2 (b_X3_lay_19_2 n) x1 x3 M
set_option maxHeartbeats 4000000 in
theorem g_X3_lay_19_2  {n : Nat} {x1 : Int64} {x3 : Int32} {M : Mm} {M' : Mm} (hE : Has shC (eH E)) (C : Cx RX3 cX3_lay 10 p (rmD 3) s m args meth c E) (hr : meth.sig.returnType = none) (h : b_X3_lay_19_2 n x1 x3 M = some M') : G p l e (rmD 3) s m args below meth c E 10 0 0 (QR below args s E 0 0 none M') 2 [(0, .ref (eA E 19)), (1, .long x1), (3, .int x3)] [] M := by
  induction n generalizing x1 x3 M with
  | zero => cases h
  | succ n ih => exact gb_X3_lay_19_2 hE C hr (fun _ _ _ => ih)  h
def bb_X3_lay_19_0 (x1 : Int64) (M : Mm) : Option Mm := b_X3_lay_19_2 FU x1 (0 : Int32) M
set_option maxHeartbeats 4000000 in
set_option maxRecDepth 100000 in
theorem gb_X3_lay_19_0  {x1 : Int64} {M : Mm} {M' : Mm} (hE : Has shC (eH E)) (C : Cx RX3 cX3_lay 10 p (rmD 3) s m args meth c E) (hr : meth.sig.returnType = none) (h : bb_X3_lay_19_0 x1 M = some M') : G p l e (rmD 3) s m args below meth c E 10 0 0 (QR below args s E 0 0 none M') 0 [(0, .ref (eA E 19)), (1, .long x1)] [] M := by
  unfold bb_X3_lay_19_0 at h
  refine G.iconst (v := (0 : Int32)) C dX3_lay_0 (by decide) ?_
  refine G.istore_n (L' := [(3, .int (0 : Int32)), (0, .ref (eA E 19)), (1, .long x1)]) C dX3_lay_1 rfl rfl (by decide) rfl ?_
  exact G.sub [1, 2, 0] rfl (g_X3_lay_19_2 hE C hr  h)
def f_X3_lay_19 (x1 : Int64) (M : Mm) : Option Mm := bb_X3_lay_19_0 x1 M
theorem s_X3_lay_19 {l : Launch} {E : Ev} {x1 : Int64} {M : Mm} {M' : Mm} (hE : Has shC (eH E)) (h : f_X3_lay_19 x1 M = some M') : MetA l yX3_lay cX3_lay 10 none 3 E [.ref (eA E 19), .long x1] M none M' := by
  refine MetA.of (by decide +kernel) (Nat.le_of_ble_eq_true rfl) ?_
  intro p e s m below meth c C hr hnm
  exact G.sub [0, 1] rfl (gb_X3_lay_19_0 hE C hr  h)
def bb_X3_takenBy_19_0 (x1 : Int32) (M : Mm) : Option Int64 := if x1 < 0 then (some (0 : Int64)) else (if (32 : Int32) ≤ x1 then (some (0 : Int64)) else (gd (inb x1 32) (some (M.2 20 (ix x1)))))
set_option maxHeartbeats 4000000 in
set_option maxRecDepth 100000 in
theorem gb_X3_takenBy_19_0  {x1 : Int32} {M : Mm} {v : Int64} (hE : Has shC (eH E)) (C : Cx RX3 cX3_takenBy 2 p (rmD 1) s m args meth c E) (hr : meth.sig.returnType = (some .long)) (h : bb_X3_takenBy_19_0 x1 M = some v) : G p l e (rmD 1) s m args below meth c E 2 0 0 (QR below args s E 0 0 (some (.long v)) M) 0 [(0, .ref (eA E 19)), (1, .int x1)] [] M := by
  unfold bb_X3_takenBy_19_0 at h
  refine G.iload_n C 1 dX3_takenBy_0 rfl rfl ?_
  refine G.if_lt (tgt := 19) C dX3_takenBy_1 (by decide) (fun hc => ?_) (fun hc => ?_)
  · have h := it_t h hc
    refine G.lconst (v := (0 : Int64)) C dX3_takenBy_19 (by decide) ?_
    cases h
    exact G.lret C hr dX3_takenBy_20
  · have h := it_f h hc
    refine G.iload_n C 1 dX3_takenBy_4 rfl rfl ?_
    refine G.bipush (v := (32 : Int32)) C dX3_takenBy_5 (by decide) ?_
    refine G.icmp_ge (tgt := 19) C dX3_takenBy_7 (by decide) (fun hc => ?_) (fun hc => ?_)
    · have h := it_t h hc
      refine G.lconst (v := (0 : Int64)) C dX3_takenBy_19 (by decide) ?_
      cases h
      exact G.lret C hr dX3_takenBy_20
    · have h := it_f h hc
      refine G.aload_n C 0 dX3_takenBy_10 rfl rfl ?_
      refine G.getR (k := 0) C k_X3 (sc_19 hE) rfl (by decide) tg_227 dX3_takenBy_11 ?_
      refine G.iload_n C 1 dX3_takenBy_14 rfl rfl ?_
      obtain ⟨hg_1, h⟩ := gd_ex h
      refine G.aJ (j := ix x1) C (sc_20 hE) hg_1 rfl dX3_takenBy_15 ?_
      refine G.goto (tgt := 20) C dX3_takenBy_16 (by decide) ?_
      cases h
      exact G.lret C hr dX3_takenBy_20
def f_X3_takenBy_19 (x1 : Int32) (M : Mm) : Option Int64 := bb_X3_takenBy_19_0 x1 M
theorem s_X3_takenBy_19 {l : Launch} {E : Ev} {x1 : Int32} {M : Mm} {v : Int64} (hE : Has shC (eH E)) (h : f_X3_takenBy_19 x1 M = some v) : MetA l yX3_takenBy cX3_takenBy 2 (some .long) 1 E [.ref (eA E 19), .int x1] M (some (.long v)) M := by
  refine MetA.of (by decide +kernel) (Nat.le_of_ble_eq_true rfl) ?_
  intro p e s m below meth c C hr hnm
  exact G.sub [0, 1] rfl (gb_X3_takenBy_19_0 hE C hr  h)
def bb_X3_takenByAny_19_6 (k_6 : Int32 → Int64 → Int64 → Int32 → Mm → Option Int64) (x1 : Int32) (x2 : Int64) (x4 : Int64) (x6 : Int32) (M : Mm) : Option Int64 := if x6 < 0 then (some x4) else (if (x1 + (16 : Int32)) ≤ x6 then (some x4) else (if (32 : Int32) ≤ x6 then (some x4) else (if (x2 &&& (shL (1 : Int64) x6)) = (0 : Int64) then (gd (inb x6 32) (ltv (x4 ||| (M.2 20 (ix x6))) fun x4_3 => ltv (x6 + (1 : Int32)) fun x6_4 => k_6 x1 x2 x4_3 x6_4 M)) else (ltv (x6 + (1 : Int32)) fun x6_1 => k_6 x1 x2 x4 x6_1 M))))
set_option maxHeartbeats 4000000 in
set_option maxRecDepth 100000 in
theorem gb_X3_takenByAny_19_6  {k_6 : Int32 → Int64 → Int64 → Int32 → Mm → Option Int64} {x1 : Int32} {x2 : Int64} {x4 : Int64} {x6 : Int32} {M : Mm} {v : Int64} (hE : Has shC (eH E)) (C : Cx RX3 cX3_takenByAny 7 p (rmD 1) s m args meth c E) (hr : meth.sig.returnType = (some .long)) (hk_6 : ∀ (x1 : Int32) (x2 : Int64) (x4 : Int64) (x6 : Int32) (M : Mm), k_6 x1 x2 x4 x6 M = some v → G p l e (rmD 1) s m args below meth c E 7 0 0 (QR below args s E 0 0 (some (.long v)) M) 6 [(0, .ref (eA E 19)), (1, .int x1), (2, .long x2), (4, .long x4), (6, .int x6)] [] M) (h : bb_X3_takenByAny_19_6 k_6 x1 x2 x4 x6 M = some v) : G p l e (rmD 1) s m args below meth c E 7 0 0 (QR below args s E 0 0 (some (.long v)) M) 6 [(0, .ref (eA E 19)), (1, .int x1), (2, .long x2), (4, .long x4), (6, .int x6)] [] M := by
  unfold bb_X3_takenByAny_19_6 at h
  refine G.iload C 4 dX3_takenByAny_6 rfl ?_
  refine G.if_lt (tgt := 56) C dX3_takenByAny_8 (by decide) (fun hc => ?_) (fun hc => ?_)
  · have h := it_t h hc
    refine G.lload C 3 dX3_takenByAny_56 rfl ?_
    cases h
    exact G.lret C hr dX3_takenByAny_58
  · have h := it_f h hc
    refine G.iload C 4 dX3_takenByAny_11 rfl ?_
    refine G.iload_n C 1 dX3_takenByAny_13 rfl rfl ?_
    refine G.bipush (v := (16 : Int32)) C dX3_takenByAny_14 (by decide) ?_
    refine G.iadd C dX3_takenByAny_16 ?_
    refine G.icmp_ge (tgt := 56) C dX3_takenByAny_17 (by decide) (fun hc => ?_) (fun hc => ?_)
    · have h := it_t h hc
      refine G.lload C 3 dX3_takenByAny_56 rfl ?_
      cases h
      exact G.lret C hr dX3_takenByAny_58
    · have h := it_f h hc
      refine G.iload C 4 dX3_takenByAny_20 rfl ?_
      refine G.bipush (v := (32 : Int32)) C dX3_takenByAny_22 (by decide) ?_
      refine G.icmp_ge (tgt := 56) C dX3_takenByAny_24 (by decide) (fun hc => ?_) (fun hc => ?_)
      · have h := it_t h hc
        refine G.lload C 3 dX3_takenByAny_56 rfl ?_
        cases h
        exact G.lret C hr dX3_takenByAny_58
      · have h := it_f h hc
        refine G.lload_n C 2 dX3_takenByAny_27 rfl rfl ?_
        refine G.lconst (v := (1 : Int64)) C dX3_takenByAny_28 (by decide) ?_
        refine G.iload C 4 dX3_takenByAny_29 rfl ?_
        refine G.lshl (v := shL (1 : Int64) x6) C dX3_takenByAny_31 rfl ?_
        refine G.land C dX3_takenByAny_32 ?_
        refine G.lconst (v := (0 : Int64)) C dX3_takenByAny_33 (by decide) ?_
        refine G.lcmp C dX3_takenByAny_34 (G.if_ne (tgt := 50) C dX3_takenByAny_35 (by decide) (fun hc => ?_) (fun hc => ?_))
        · have h := it_f h (lgc_ne.mp hc)
          obtain ⟨x6_1, ex6_1, h⟩ := ltv_ex h
          refine G.iinc (L' := [(6, .int x6_1), (0, .ref (eA E 19)), (1, .int x1), (2, .long x2), (4, .long x4)]) C 4 dX3_takenByAny_50 rfl (ex6_1.trans rfl) (by decide) rfl ?_
          refine G.goto (tgt := 6) C dX3_takenByAny_53 (by decide) ?_
          exact G.sub [1, 2, 3, 4, 0] rfl (hk_6 _ _ _ _ _  h)
        · have h := it_t h (lgc_eq.mp hc)
          refine G.lload C 3 dX3_takenByAny_38 rfl ?_
          refine G.aload_n C 0 dX3_takenByAny_40 rfl rfl ?_
          refine G.getR (k := 0) C k_X3 (sc_19 hE) rfl (by decide) tg_227 dX3_takenByAny_41 ?_
          refine G.iload C 4 dX3_takenByAny_44 rfl ?_
          obtain ⟨hg_2, h⟩ := gd_ex h
          refine G.aJ (j := ix x6) C (sc_20 hE) hg_2 rfl dX3_takenByAny_46 ?_
          refine G.lor C dX3_takenByAny_47 ?_
          obtain ⟨x4_3, ex4_3, h⟩ := ltv_ex h
          refine G.lstore (L' := [(4, .long x4_3), (0, .ref (eA E 19)), (1, .int x1), (2, .long x2), (6, .int x6)]) C dX3_takenByAny_48 ex4_3 (by decide) rfl ?_
          obtain ⟨x6_4, ex6_4, h⟩ := ltv_ex h
          refine G.iinc (L' := [(6, .int x6_4), (4, .long x4_3), (0, .ref (eA E 19)), (1, .int x1), (2, .long x2)]) C 4 dX3_takenByAny_50 rfl (ex6_4.trans rfl) (by decide) rfl ?_
          refine G.goto (tgt := 6) C dX3_takenByAny_53 (by decide) ?_
          exact G.sub [2, 3, 4, 1, 0] rfl (hk_6 _ _ _ _ _  h)
def b_X3_takenByAny_19_6 : Nat → Int32 → Int64 → Int64 → Int32 → Mm → Option Int64
  | 0, _, _, _, _, _ => none
  | n + 1, x1, x2, x4, x6, M => bb_X3_takenByAny_19_6 (b_X3_takenByAny_19_6 n) x1 x2 x4 x6 M
set_option maxHeartbeats 4000000 in
theorem g_X3_takenByAny_19_6  {n : Nat} {x1 : Int32} {x2 : Int64} {x4 : Int64} {x6 : Int32} {M : Mm} {v : Int64} (hE : Has shC (eH E)) (C : Cx RX3 cX3_takenByAny 7 p (rmD 1) s m args meth c E) (hr : meth.sig.returnType = (some .long)) (h : b_X3_takenByAny_19_6 n x1 x2 x4 x6 M = some v) : G p l e (rmD 1) s m args below meth c E 7 0 0 (QR below args s E 0 0 (some (.long v)) M) 6 [(0, .ref (eA E 19)), (1, .int x1), (2, .long x2), (4, .long x4), (6, .int x6)] [] M := by
  induction n generalizing x1 x2 x4 x6 M with
  | zero => cases h
  | succ n ih => exact gb_X3_takenByAny_19_6 hE C hr (fun _ _ _ _ _ => ih)  h
def bb_X3_takenByAny_19_0 (x1 : Int32) (x2 : Int64) (M : Mm) : Option Int64 := b_X3_takenByAny_19_6 FU x1 x2 (0 : Int64) x1 M
set_option maxHeartbeats 4000000 in
set_option maxRecDepth 100000 in
theorem gb_X3_takenByAny_19_0  {x1 : Int32} {x2 : Int64} {M : Mm} {v : Int64} (hE : Has shC (eH E)) (C : Cx RX3 cX3_takenByAny 7 p (rmD 1) s m args meth c E) (hr : meth.sig.returnType = (some .long)) (h : bb_X3_takenByAny_19_0 x1 x2 M = some v) : G p l e (rmD 1) s m args below meth c E 7 0 0 (QR below args s E 0 0 (some (.long v)) M) 0 [(0, .ref (eA E 19)), (1, .int x1), (2, .long x2)] [] M := by
  unfold bb_X3_takenByAny_19_0 at h
  refine G.lconst (v := (0 : Int64)) C dX3_takenByAny_0 (by decide) ?_
  refine G.lstore (L' := [(4, .long (0 : Int64)), (0, .ref (eA E 19)), (1, .int x1), (2, .long x2)]) C dX3_takenByAny_1 rfl (by decide) rfl ?_
  refine G.iload_n C 2 dX3_takenByAny_3 rfl rfl ?_
  refine G.istore (L' := [(6, .int x1), (4, .long (0 : Int64)), (0, .ref (eA E 19)), (1, .int x1), (2, .long x2)]) C dX3_takenByAny_4 rfl (by decide) rfl ?_
  exact G.sub [2, 3, 4, 1, 0] rfl (g_X3_takenByAny_19_6 hE C hr  h)
def f_X3_takenByAny_19 (x1 : Int32) (x2 : Int64) (M : Mm) : Option Int64 := bb_X3_takenByAny_19_0 x1 x2 M
theorem s_X3_takenByAny_19 {l : Launch} {E : Ev} {x1 : Int32} {x2 : Int64} {M : Mm} {v : Int64} (hE : Has shC (eH E)) (h : f_X3_takenByAny_19 x1 x2 M = some v) : MetA l yX3_takenByAny cX3_takenByAny 7 (some .long) 1 E [.ref (eA E 19), .int x1, .long x2] M (some (.long v)) M := by
  refine MetA.of (by decide +kernel) (Nat.le_of_ble_eq_true rfl) ?_
  intro p e s m below meth c C hr hnm
  exact G.sub [0, 1, 2] rfl (gb_X3_takenByAny_19_0 hE C hr  h)
def bb_X3_layCrossings_19_28 (k_2 : Int64 → Int32 → Mm → Option Mm) (k_28 : Int64 → Int32 → Int64 → Int32 → Mm → Option Mm) (x1 : Int64) (x3 : Int32) (x4 : Int64) (x6 : Int32) (M : Mm) : Option Mm := if (16 : Int32) ≤ x6 then (ltv (x3 + (1 : Int32)) fun x3_5 => k_2 x1 x3_5 M) else (if x4 = (0 : Int64) then (ltv (x3 + (1 : Int32)) fun x3_6 => k_2 x1 x3_6 M) else (gd (inb ((16 : Int32) + x6) 32) (if (x4 &&& (M.2 20 (ix ((16 : Int32) + x6)))) = (0 : Int64) then (ltv (x6 + (1 : Int32)) fun x6_8 => k_28 x1 x3 x4 x6_8 M) else (gd (inb x3 16) (gd (inb x3 16) (ltv (wI M 21 (ix x3) ((M.1 21 (ix x3)) ||| (shI (1 : Int32) x6))) fun M_11 => ltv (x6 + (1 : Int32)) fun x6_12 => k_28 x1 x3 x4 x6_12 M_11))))))
set_option maxHeartbeats 4000000 in
set_option maxRecDepth 100000 in
theorem gb_X3_layCrossings_19_28  {k_2 : Int64 → Int32 → Mm → Option Mm} {k_28 : Int64 → Int32 → Int64 → Int32 → Mm → Option Mm} {x1 : Int64} {x3 : Int32} {x4 : Int64} {x6 : Int32} {M : Mm} {M' : Mm} (hE : Has shC (eH E)) (C : Cx RX3 cX3_layCrossings 7 p (rmD 1) s m args meth c E) (hr : meth.sig.returnType = none) (hk_2 : ∀ (x1 : Int64) (x3 : Int32) (M : Mm), k_2 x1 x3 M = some M' → G p l e (rmD 1) s m args below meth c E 7 0 0 (QR below args s E 0 0 none M') 2 [(0, .ref (eA E 19)), (1, .long x1), (3, .int x3)] [] M) (hk_28 : ∀ (x1 : Int64) (x3 : Int32) (x4 : Int64) (x6 : Int32) (M : Mm), k_28 x1 x3 x4 x6 M = some M' → G p l e (rmD 1) s m args below meth c E 7 0 0 (QR below args s E 0 0 none M') 28 [(0, .ref (eA E 19)), (1, .long x1), (3, .int x3), (4, .long x4), (6, .int x6)] [] M) (h : bb_X3_layCrossings_19_28 k_2 k_28 x1 x3 x4 x6 M = some M') : G p l e (rmD 1) s m args below meth c E 7 0 0 (QR below args s E 0 0 none M') 28 [(0, .ref (eA E 19)), (1, .long x1), (3, .int x3), (4, .long x4), (6, .int x6)] [] M := by
  unfold bb_X3_layCrossings_19_28 at h
  refine G.iload C 4 dX3_layCrossings_28 rfl ?_
  refine G.bipush (v := (16 : Int32)) C dX3_layCrossings_30 (by decide) ?_
  refine G.icmp_ge (tgt := 79) C dX3_layCrossings_32 (by decide) (fun hc => ?_) (fun hc => ?_)
  · have h := it_t h hc
    obtain ⟨x3_5, ex3_5, h⟩ := ltv_ex h
    refine G.iinc (L' := [(3, .int x3_5), (0, .ref (eA E 19)), (1, .long x1), (4, .long x4), (6, .int x6)]) C 2 dX3_layCrossings_79 rfl (ex3_5.trans rfl) (by decide) rfl ?_
    refine G.goto (tgt := 2) C dX3_layCrossings_82 (by decide) ?_
    exact G.sub [1, 2, 0] rfl (hk_2 _ _ _  h)
  · have h := it_f h hc
    refine G.lload C 3 dX3_layCrossings_35 rfl ?_
    refine G.lconst (v := (0 : Int64)) C dX3_layCrossings_37 (by decide) ?_
    refine G.lcmp C dX3_layCrossings_38 (G.if_eq (tgt := 79) C dX3_layCrossings_39 (by decide) (fun hc => ?_) (fun hc => ?_))
    · have h := it_t h (lgc_eq.mp hc)
      obtain ⟨x3_6, ex3_6, h⟩ := ltv_ex h
      refine G.iinc (L' := [(3, .int x3_6), (0, .ref (eA E 19)), (1, .long x1), (4, .long x4), (6, .int x6)]) C 2 dX3_layCrossings_79 rfl (ex3_6.trans rfl) (by decide) rfl ?_
      refine G.goto (tgt := 2) C dX3_layCrossings_82 (by decide) ?_
      exact G.sub [1, 2, 0] rfl (hk_2 _ _ _  h)
    · have h := it_f h ((not_congr lgc_eq).mp hc)
      refine G.lload C 3 dX3_layCrossings_42 rfl ?_
      refine G.aload_n C 0 dX3_layCrossings_44 rfl rfl ?_
      refine G.getR (k := 0) C k_X3 (sc_19 hE) rfl (by decide) tg_227 dX3_layCrossings_45 ?_
      refine G.bipush (v := (16 : Int32)) C dX3_layCrossings_48 (by decide) ?_
      refine G.iload C 4 dX3_layCrossings_50 rfl ?_
      refine G.iadd C dX3_layCrossings_52 ?_
      obtain ⟨hg_7, h⟩ := gd_ex h
      refine G.aJ (j := ix ((16 : Int32) + x6)) C (sc_20 hE) hg_7 rfl dX3_layCrossings_53 ?_
      refine G.land C dX3_layCrossings_54 ?_
      refine G.lconst (v := (0 : Int64)) C dX3_layCrossings_55 (by decide) ?_
      refine G.lcmp C dX3_layCrossings_56 (G.if_eq (tgt := 73) C dX3_layCrossings_57 (by decide) (fun hc => ?_) (fun hc => ?_))
      · have h := it_t h (lgc_eq.mp hc)
        obtain ⟨x6_8, ex6_8, h⟩ := ltv_ex h
        refine G.iinc (L' := [(6, .int x6_8), (0, .ref (eA E 19)), (1, .long x1), (3, .int x3), (4, .long x4)]) C 4 dX3_layCrossings_73 rfl (ex6_8.trans rfl) (by decide) rfl ?_
        refine G.goto (tgt := 28) C dX3_layCrossings_76 (by decide) ?_
        exact G.sub [1, 2, 3, 4, 0] rfl (hk_28 _ _ _ _ _  h)
      · have h := it_f h ((not_congr lgc_eq).mp hc)
        refine G.aload_n C 0 dX3_layCrossings_60 rfl rfl ?_
        refine G.getR (k := 1) C k_X3 (sc_19 hE) rfl (by decide) tg_228 dX3_layCrossings_61 ?_
        refine G.iload_n C 2 dX3_layCrossings_64 rfl rfl ?_
        refine G.dup2_11 C dX3_layCrossings_65 rfl rfl ?_
        obtain ⟨hg_9, h⟩ := gd_ex h
        refine G.aI (j := ix x3) C (sc_21 hE) hg_9 rfl dX3_layCrossings_66 ?_
        refine G.iconst (v := (1 : Int32)) C dX3_layCrossings_67 (by decide) ?_
        refine G.iload C 4 dX3_layCrossings_68 rfl ?_
        refine G.isl C dX3_layCrossings_70 ?_
        refine G.ior C dX3_layCrossings_71 ?_
        obtain ⟨hg_10, h⟩ := gd_ex h
        obtain ⟨M_11, eM_11, h⟩ := ltv_ex h
        refine G.sI (j := (ix x3)) C (sc_21 hE) hg_10 rfl dX3_layCrossings_72 eM_11 ?_
        obtain ⟨x6_12, ex6_12, h⟩ := ltv_ex h
        refine G.iinc (L' := [(6, .int x6_12), (0, .ref (eA E 19)), (1, .long x1), (3, .int x3), (4, .long x4)]) C 4 dX3_layCrossings_73 rfl (ex6_12.trans rfl) (by decide) rfl ?_
        refine G.goto (tgt := 28) C dX3_layCrossings_76 (by decide) ?_
        exact G.sub [1, 2, 3, 4, 0] rfl (hk_28 _ _ _ _ _  h)
def b_X3_layCrossings_19_28 (k_2 : Int64 → Int32 → Mm → Option Mm) : Nat → Int64 → Int32 → Int64 → Int32 → Mm → Option Mm
  | 0, _, _, _, _, _ => none
  | n + 1, x1, x3, x4, x6, M => bb_X3_layCrossings_19_28 k_2 (b_X3_layCrossings_19_28 k_2 n) x1 x3 x4 x6 M
set_option maxHeartbeats 4000000 in
theorem g_X3_layCrossings_19_28  {k_2 : Int64 → Int32 → Mm → Option Mm} {n : Nat} {x1 : Int64} {x3 : Int32} {x4 : Int64} {x6 : Int32} {M : Mm} {M' : Mm} (hE : Has shC (eH E)) (C : Cx RX3 cX3_layCrossings 7 p (rmD 1) s m args meth c E) (hr : meth.sig.returnType = none) (hk_2 : ∀ (x1 : Int64) (x3 : Int32) (M : Mm), k_2 x1 x3 M = some M' → G p l e (rmD 1) s m args below meth c E 7 0 0 (QR below args s E 0 0 none M') 2 [(0, .ref (eA E 19)), (1, .long x1), (3, .int x3)] [] M) (h : b_X3_layCrossings_19_28 k_2 n x1 x3 x4 x6 M = some M') : G p l e (rmD 1) s m args below meth c E 7 0 0 (QR below args s E 0 0 none M') 28 [(0, .ref (eA E 19)), (1, .long x1), (3, .int x3), (4, .long x4), (6, .int x6)] [] M := by
  induction n generalizing x1 x3 x4 x6 M with
  | zero => cases h
  | succ n ih => exact gb_X3_layCrossings_19_28 hE C hr hk_2 (fun _ _ _ _ _ => ih)  h
def bb_X3_layCrossings_19_2 (k_2 : Int64 → Int32 → Mm → Option Mm) (x1 : Int64) (x3 : Int32) (M : Mm) : Option Mm := if (16 : Int32) ≤ x3 then (some M) else (gd (inb x3 16) (ltv (wI M 21 (ix x3) (0 : Int32)) fun M_2 => gd (inb x3 32) (ltv ((M_2.2 20 (ix x3)) &&& x1) fun x4_4 => b_X3_layCrossings_19_28 k_2 FU x1 x3 x4_4 (0 : Int32) M_2)))
set_option maxHeartbeats 4000000 in
set_option maxRecDepth 100000 in
theorem gb_X3_layCrossings_19_2  {k_2 : Int64 → Int32 → Mm → Option Mm} {x1 : Int64} {x3 : Int32} {M : Mm} {M' : Mm} (hE : Has shC (eH E)) (C : Cx RX3 cX3_layCrossings 7 p (rmD 1) s m args meth c E) (hr : meth.sig.returnType = none) (hk_2 : ∀ (x1 : Int64) (x3 : Int32) (M : Mm), k_2 x1 x3 M = some M' → G p l e (rmD 1) s m args below meth c E 7 0 0 (QR below args s E 0 0 none M') 2 [(0, .ref (eA E 19)), (1, .long x1), (3, .int x3)] [] M) (h : bb_X3_layCrossings_19_2 k_2 x1 x3 M = some M') : G p l e (rmD 1) s m args below meth c E 7 0 0 (QR below args s E 0 0 none M') 2 [(0, .ref (eA E 19)), (1, .long x1), (3, .int x3)] [] M := by
  unfold bb_X3_layCrossings_19_2 at h
  refine G.iload_n C 2 dX3_layCrossings_2 rfl rfl ?_
  refine G.bipush (v := (16 : Int32)) C dX3_layCrossings_3 (by decide) ?_
  refine G.icmp_ge (tgt := 85) C dX3_layCrossings_5 (by decide) (fun hc => ?_) (fun hc => ?_)
  · have h := it_t h hc
    cases h
    exact G.vret C hr dX3_layCrossings_85
  · have h := it_f h hc
    refine G.aload_n C 0 dX3_layCrossings_8 rfl rfl ?_
    refine G.getR (k := 1) C k_X3 (sc_19 hE) rfl (by decide) tg_228 dX3_layCrossings_9 ?_
    refine G.iload_n C 2 dX3_layCrossings_12 rfl rfl ?_
    refine G.iconst (v := (0 : Int32)) C dX3_layCrossings_13 (by decide) ?_
    obtain ⟨hg_1, h⟩ := gd_ex h
    obtain ⟨M_2, eM_2, h⟩ := ltv_ex h
    refine G.sI (j := (ix x3)) C (sc_21 hE) hg_1 rfl dX3_layCrossings_14 eM_2 ?_
    refine G.aload_n C 0 dX3_layCrossings_15 rfl rfl ?_
    refine G.getR (k := 0) C k_X3 (sc_19 hE) rfl (by decide) tg_227 dX3_layCrossings_16 ?_
    refine G.iload_n C 2 dX3_layCrossings_19 rfl rfl ?_
    obtain ⟨hg_3, h⟩ := gd_ex h
    refine G.aJ (j := ix x3) C (sc_20 hE) hg_3 rfl dX3_layCrossings_20 ?_
    refine G.lload_n C 1 dX3_layCrossings_21 rfl rfl ?_
    refine G.land C dX3_layCrossings_22 ?_
    obtain ⟨x4_4, ex4_4, h⟩ := ltv_ex h
    refine G.lstore (L' := [(4, .long x4_4), (0, .ref (eA E 19)), (1, .long x1), (3, .int x3)]) C dX3_layCrossings_23 ex4_4 (by decide) rfl ?_
    refine G.iconst (v := (0 : Int32)) C dX3_layCrossings_25 (by decide) ?_
    refine G.istore (L' := [(6, .int (0 : Int32)), (4, .long x4_4), (0, .ref (eA E 19)), (1, .long x1), (3, .int x3)]) C dX3_layCrossings_26 rfl (by decide) rfl ?_
    exact G.sub [2, 3, 4, 1, 0] rfl (g_X3_layCrossings_19_28 hE C hr hk_2  h)
def b_X3_layCrossings_19_2 : Nat → Int64 → Int32 → Mm → Option Mm
  | 0, _, _, _ => none
  | n + 1, x1, x3, M => bb_X3_layCrossings_19_2 (b_X3_layCrossings_19_2 n) x1 x3 M
set_option maxHeartbeats 4000000 in
theorem g_X3_layCrossings_19_2  {n : Nat} {x1 : Int64} {x3 : Int32} {M : Mm} {M' : Mm} (hE : Has shC (eH E)) (C : Cx RX3 cX3_layCrossings 7 p (rmD 1) s m args meth c E) (hr : meth.sig.returnType = none) (h : b_X3_layCrossings_19_2 n x1 x3 M = some M') : G p l e (rmD 1) s m args below meth c E 7 0 0 (QR below args s E 0 0 none M') 2 [(0, .ref (eA E 19)), (1, .long x1), (3, .int x3)] [] M := by
  induction n generalizing x1 x3 M with
  | zero => cases h
  | succ n ih => exact gb_X3_layCrossings_19_2 hE C hr (fun _ _ _ => ih)  h
def bb_X3_layCrossings_19_0 (x1 : Int64) (M : Mm) : Option Mm := b_X3_layCrossings_19_2 FU x1 (0 : Int32) M
set_option maxHeartbeats 4000000 in
set_option maxRecDepth 100000 in
theorem gb_X3_layCrossings_19_0  {x1 : Int64} {M : Mm} {M' : Mm} (hE : Has shC (eH E)) (C : Cx RX3 cX3_layCrossings 7 p (rmD 1) s m args meth c E) (hr : meth.sig.returnType = none) (h : bb_X3_layCrossings_19_0 x1 M = some M') : G p l e (rmD 1) s m args below meth c E 7 0 0 (QR below args s E 0 0 none M') 0 [(0, .ref (eA E 19)), (1, .long x1)] [] M := by
  unfold bb_X3_layCrossings_19_0 at h
  refine G.iconst (v := (0 : Int32)) C dX3_layCrossings_0 (by decide) ?_
  refine G.istore_n (L' := [(3, .int (0 : Int32)), (0, .ref (eA E 19)), (1, .long x1)]) C dX3_layCrossings_1 rfl rfl (by decide) rfl ?_
  exact G.sub [1, 2, 0] rfl (g_X3_layCrossings_19_2 hE C hr  h)
def f_X3_layCrossings_19 (x1 : Int64) (M : Mm) : Option Mm := bb_X3_layCrossings_19_0 x1 M
theorem s_X3_layCrossings_19 {l : Launch} {E : Ev} {x1 : Int64} {M : Mm} {M' : Mm} (hE : Has shC (eH E)) (h : f_X3_layCrossings_19 x1 M = some M') : MetA l yX3_layCrossings cX3_layCrossings 7 none 1 E [.ref (eA E 19), .long x1] M none M' := by
  refine MetA.of (by decide +kernel) (Nat.le_of_ble_eq_true rfl) ?_
  intro p e s m below meth c C hr hnm
  exact G.sub [0, 1] rfl (gb_X3_layCrossings_19_0 hE C hr  h)
def bb_J7_fill_53178_22_5 (k_5 : Int32 → Int32 → Int32 → Mm → Option Mm) (x1 : Int32) (x2 : Int32) (x3 : Int32) (M : Mm) : Option Mm := if x3 ≤ x2 then (some M) else (gd (inb x2 16) (ltv (wI M 22 (ix x2) x1) fun M_2 => ltv (x2 + (1 : Int32)) fun x2_3 => k_5 x1 x2_3 x3 M_2))
set_option maxHeartbeats 4000000 in
set_option maxRecDepth 100000 in
theorem gb_J7_fill_53178_22_5  {k_5 : Int32 → Int32 → Int32 → Mm → Option Mm} {x1 : Int32} {x2 : Int32} {x3 : Int32} {M : Mm} {M' : Mm} (hE : Has shC (eH E)) (C : Cx RJ7 cJ7_fill_53178 4 p (rmD 1) s m args meth c E) (hr : meth.sig.returnType = none) (hk_5 : ∀ (x1 : Int32) (x2 : Int32) (x3 : Int32) (M : Mm), k_5 x1 x2 x3 M = some M' → G p l e (rmD 1) s m args below meth c E 4 0 0 (QR below args s E 0 0 none M') 5 [(0, .ref (eA E 22)), (1, .int x1), (2, .int x2), (3, .int x3)] [] M) (h : bb_J7_fill_53178_22_5 k_5 x1 x2 x3 M = some M') : G p l e (rmD 1) s m args below meth c E 4 0 0 (QR below args s E 0 0 none M') 5 [(0, .ref (eA E 22)), (1, .int x1), (2, .int x2), (3, .int x3)] [] M := by
  unfold bb_J7_fill_53178_22_5 at h
  refine G.iload_n C 2 dJ7_fill_53178_5 rfl rfl ?_
  refine G.iload_n C 3 dJ7_fill_53178_6 rfl rfl ?_
  refine G.icmp_ge (tgt := 20) C dJ7_fill_53178_7 (by decide) (fun hc => ?_) (fun hc => ?_)
  · have h := it_t h hc
    cases h
    exact G.vret C hr dJ7_fill_53178_20
  · have h := it_f h hc
    refine G.aload_n C 0 dJ7_fill_53178_10 rfl rfl ?_
    refine G.iload_n C 2 dJ7_fill_53178_11 rfl rfl ?_
    refine G.iload_n C 1 dJ7_fill_53178_12 rfl rfl ?_
    obtain ⟨hg_1, h⟩ := gd_ex h
    obtain ⟨M_2, eM_2, h⟩ := ltv_ex h
    refine G.sI (j := (ix x2)) C (sc_22 hE) hg_1 rfl dJ7_fill_53178_13 eM_2 ?_
    obtain ⟨x2_3, ex2_3, h⟩ := ltv_ex h
    refine G.iinc (L' := [(2, .int x2_3), (0, .ref (eA E 22)), (1, .int x1), (3, .int x3)]) C 2 dJ7_fill_53178_14 rfl (ex2_3.trans rfl) (by decide) rfl ?_
    refine G.goto (tgt := 5) C dJ7_fill_53178_17 (by decide) ?_
    exact G.sub [1, 2, 0, 3] rfl (hk_5 _ _ _ _  h)
def b_J7_fill_53178_22_5 : Nat → Int32 → Int32 → Int32 → Mm → Option Mm
  | 0, _, _, _, _ => none
  | n + 1, x1, x2, x3, M => bb_J7_fill_53178_22_5 (b_J7_fill_53178_22_5 n) x1 x2 x3 M
set_option maxHeartbeats 4000000 in
theorem g_J7_fill_53178_22_5  {n : Nat} {x1 : Int32} {x2 : Int32} {x3 : Int32} {M : Mm} {M' : Mm} (hE : Has shC (eH E)) (C : Cx RJ7 cJ7_fill_53178 4 p (rmD 1) s m args meth c E) (hr : meth.sig.returnType = none) (h : b_J7_fill_53178_22_5 n x1 x2 x3 M = some M') : G p l e (rmD 1) s m args below meth c E 4 0 0 (QR below args s E 0 0 none M') 5 [(0, .ref (eA E 22)), (1, .int x1), (2, .int x2), (3, .int x3)] [] M := by
  induction n generalizing x1 x2 x3 M with
  | zero => cases h
  | succ n ih => exact gb_J7_fill_53178_22_5 hE C hr (fun _ _ _ _ => ih)  h
def bb_J7_fill_53178_22_0 (x1 : Int32) (M : Mm) : Option Mm := b_J7_fill_53178_22_5 FU x1 (0 : Int32) (16 : Int32) M
set_option maxHeartbeats 4000000 in
set_option maxRecDepth 100000 in
theorem gb_J7_fill_53178_22_0  {x1 : Int32} {M : Mm} {M' : Mm} (hE : Has shC (eH E)) (C : Cx RJ7 cJ7_fill_53178 4 p (rmD 1) s m args meth c E) (hr : meth.sig.returnType = none) (h : bb_J7_fill_53178_22_0 x1 M = some M') : G p l e (rmD 1) s m args below meth c E 4 0 0 (QR below args s E 0 0 none M') 0 [(0, .ref (eA E 22)), (1, .int x1)] [] M := by
  unfold bb_J7_fill_53178_22_0 at h
  refine G.iconst (v := (0 : Int32)) C dJ7_fill_53178_0 (by decide) ?_
  refine G.istore_n (L' := [(2, .int (0 : Int32)), (0, .ref (eA E 22)), (1, .int x1)]) C dJ7_fill_53178_1 rfl rfl (by decide) rfl ?_
  refine G.aload_n C 1 dJ7_fill_53178_2 rfl rfl ?_
  refine G.alen (v := (16 : Int32)) C (sc_22 hE) rfl (by decide) dJ7_fill_53178_3 ?_
  refine G.istore_n (L' := [(3, .int (16 : Int32)), (2, .int (0 : Int32)), (0, .ref (eA E 22)), (1, .int x1)]) C dJ7_fill_53178_4 rfl rfl (by decide) rfl ?_
  exact G.sub [2, 3, 1, 0] rfl (g_J7_fill_53178_22_5 hE C hr  h)
def f_J7_fill_53178_22 (x1 : Int32) (M : Mm) : Option Mm := bb_J7_fill_53178_22_0 x1 M
theorem s_J7_fill_53178_22 {l : Launch} {E : Ev} {x1 : Int32} {M : Mm} {M' : Mm} (hE : Has shC (eH E)) (h : f_J7_fill_53178_22 x1 M = some M') : MetA l yJ7_fill_53178 cJ7_fill_53178 4 none 1 E [.ref (eA E 22), .int x1] M none M' := by
  refine MetA.of (by decide +kernel) (Nat.le_of_ble_eq_true rfl) ?_
  intro p e s m below meth c C hr hnm
  exact G.sub [0, 1] rfl (gb_J7_fill_53178_22_0 hE C hr  h)
def bb_J7_fill_53178_23_5 (k_5 : Int32 → Int32 → Int32 → Mm → Option Mm) (x1 : Int32) (x2 : Int32) (x3 : Int32) (M : Mm) : Option Mm := if x3 ≤ x2 then (some M) else (gd (inb x2 16) (ltv (wI M 23 (ix x2) x1) fun M_2 => ltv (x2 + (1 : Int32)) fun x2_3 => k_5 x1 x2_3 x3 M_2))
set_option maxHeartbeats 4000000 in
set_option maxRecDepth 100000 in
theorem gb_J7_fill_53178_23_5  {k_5 : Int32 → Int32 → Int32 → Mm → Option Mm} {x1 : Int32} {x2 : Int32} {x3 : Int32} {M : Mm} {M' : Mm} (hE : Has shC (eH E)) (C : Cx RJ7 cJ7_fill_53178 4 p (rmD 1) s m args meth c E) (hr : meth.sig.returnType = none) (hk_5 : ∀ (x1 : Int32) (x2 : Int32) (x3 : Int32) (M : Mm), k_5 x1 x2 x3 M = some M' → G p l e (rmD 1) s m args below meth c E 4 0 0 (QR below args s E 0 0 none M') 5 [(0, .ref (eA E 23)), (1, .int x1), (2, .int x2), (3, .int x3)] [] M) (h : bb_J7_fill_53178_23_5 k_5 x1 x2 x3 M = some M') : G p l e (rmD 1) s m args below meth c E 4 0 0 (QR below args s E 0 0 none M') 5 [(0, .ref (eA E 23)), (1, .int x1), (2, .int x2), (3, .int x3)] [] M := by
  unfold bb_J7_fill_53178_23_5 at h
  refine G.iload_n C 2 dJ7_fill_53178_5 rfl rfl ?_
  refine G.iload_n C 3 dJ7_fill_53178_6 rfl rfl ?_
  refine G.icmp_ge (tgt := 20) C dJ7_fill_53178_7 (by decide) (fun hc => ?_) (fun hc => ?_)
  · have h := it_t h hc
    cases h
    exact G.vret C hr dJ7_fill_53178_20
  · have h := it_f h hc
    refine G.aload_n C 0 dJ7_fill_53178_10 rfl rfl ?_
    refine G.iload_n C 2 dJ7_fill_53178_11 rfl rfl ?_
    refine G.iload_n C 1 dJ7_fill_53178_12 rfl rfl ?_
    obtain ⟨hg_1, h⟩ := gd_ex h
    obtain ⟨M_2, eM_2, h⟩ := ltv_ex h
    refine G.sI (j := (ix x2)) C (sc_23 hE) hg_1 rfl dJ7_fill_53178_13 eM_2 ?_
    obtain ⟨x2_3, ex2_3, h⟩ := ltv_ex h
    refine G.iinc (L' := [(2, .int x2_3), (0, .ref (eA E 23)), (1, .int x1), (3, .int x3)]) C 2 dJ7_fill_53178_14 rfl (ex2_3.trans rfl) (by decide) rfl ?_
    refine G.goto (tgt := 5) C dJ7_fill_53178_17 (by decide) ?_
    exact G.sub [1, 2, 0, 3] rfl (hk_5 _ _ _ _  h)
def b_J7_fill_53178_23_5 : Nat → Int32 → Int32 → Int32 → Mm → Option Mm
  | 0, _, _, _, _ => none
  | n + 1, x1, x2, x3, M => bb_J7_fill_53178_23_5 (b_J7_fill_53178_23_5 n) x1 x2 x3 M
set_option maxHeartbeats 4000000 in
theorem g_J7_fill_53178_23_5  {n : Nat} {x1 : Int32} {x2 : Int32} {x3 : Int32} {M : Mm} {M' : Mm} (hE : Has shC (eH E)) (C : Cx RJ7 cJ7_fill_53178 4 p (rmD 1) s m args meth c E) (hr : meth.sig.returnType = none) (h : b_J7_fill_53178_23_5 n x1 x2 x3 M = some M') : G p l e (rmD 1) s m args below meth c E 4 0 0 (QR below args s E 0 0 none M') 5 [(0, .ref (eA E 23)), (1, .int x1), (2, .int x2), (3, .int x3)] [] M := by
  induction n generalizing x1 x2 x3 M with
  | zero => cases h
  | succ n ih => exact gb_J7_fill_53178_23_5 hE C hr (fun _ _ _ _ => ih)  h
def bb_J7_fill_53178_23_0 (x1 : Int32) (M : Mm) : Option Mm := b_J7_fill_53178_23_5 FU x1 (0 : Int32) (16 : Int32) M
set_option maxHeartbeats 4000000 in
set_option maxRecDepth 100000 in
theorem gb_J7_fill_53178_23_0  {x1 : Int32} {M : Mm} {M' : Mm} (hE : Has shC (eH E)) (C : Cx RJ7 cJ7_fill_53178 4 p (rmD 1) s m args meth c E) (hr : meth.sig.returnType = none) (h : bb_J7_fill_53178_23_0 x1 M = some M') : G p l e (rmD 1) s m args below meth c E 4 0 0 (QR below args s E 0 0 none M') 0 [(0, .ref (eA E 23)), (1, .int x1)] [] M := by
  unfold bb_J7_fill_53178_23_0 at h
  refine G.iconst (v := (0 : Int32)) C dJ7_fill_53178_0 (by decide) ?_
  refine G.istore_n (L' := [(2, .int (0 : Int32)), (0, .ref (eA E 23)), (1, .int x1)]) C dJ7_fill_53178_1 rfl rfl (by decide) rfl ?_
  refine G.aload_n C 1 dJ7_fill_53178_2 rfl rfl ?_
  refine G.alen (v := (16 : Int32)) C (sc_23 hE) rfl (by decide) dJ7_fill_53178_3 ?_
  refine G.istore_n (L' := [(3, .int (16 : Int32)), (2, .int (0 : Int32)), (0, .ref (eA E 23)), (1, .int x1)]) C dJ7_fill_53178_4 rfl rfl (by decide) rfl ?_
  exact G.sub [2, 3, 1, 0] rfl (g_J7_fill_53178_23_5 hE C hr  h)
def f_J7_fill_53178_23 (x1 : Int32) (M : Mm) : Option Mm := bb_J7_fill_53178_23_0 x1 M
theorem s_J7_fill_53178_23 {l : Launch} {E : Ev} {x1 : Int32} {M : Mm} {M' : Mm} (hE : Has shC (eH E)) (h : f_J7_fill_53178_23 x1 M = some M') : MetA l yJ7_fill_53178 cJ7_fill_53178 4 none 1 E [.ref (eA E 23), .int x1] M none M' := by
  refine MetA.of (by decide +kernel) (Nat.le_of_ble_eq_true rfl) ?_
  intro p e s m below meth c C hr hnm
  exact G.sub [0, 1] rfl (gb_J7_fill_53178_23_0 hE C hr  h)
def bb_X3_findsMate_21_22_23_22 (rc : Int32 → Int32 → Mm → Option (Int32 × Mm)) (k_22 : Int32 → Int32 → Int32 → Mm → Option (Int32 × Mm)) (x3 : Int32) (x4 : Int32) (x5 : Int32) (M : Mm) : Option (Int32 × Mm) := if (16 : Int32) ≤ x5 then (some ((0 : Int32), M)) else (gd (inb x3 16) (if ((M.1 21 (ix x3)) &&& (shI (1 : Int32) x5)) = 0 then (ltv (x5 + (1 : Int32)) fun x5_2 => k_22 x3 x4 x5_2 M) else (gd (inb x5 16) (if (M.1 23 (ix x5)) = 0 then (gd (inb x5 16) (ltv (wI M 23 (ix x5) (1 : Int32)) fun M_5 => gd (inb x5 16) (if (M_5.1 22 (ix x5)) = (-1 : Int32) then (gd (inb x5 16) (ltv (wI M_5 22 (ix x5) x3) fun M_8 => some ((1 : Int32), M_8))) else (gd (inb x5 16) (bd2 (rc (M_5.1 22 (ix x5)) (x4 + (1 : Int32)) M_5) fun v_12 M_11 => if v_12 = 0 then (ltv (x5 + (1 : Int32)) fun x5_13 => k_22 x3 x4 x5_13 M_11) else (gd (inb x5 16) (ltv (wI M_11 22 (ix x5) x3) fun M_15 => some ((1 : Int32), M_15)))))))) else (ltv (x5 + (1 : Int32)) fun x5_16 => k_22 x3 x4 x5_16 M)))))
set_option maxHeartbeats 4000000 in
set_option maxRecDepth 100000 in
theorem gb_X3_findsMate_21_22_23_22 {dd : Nat}  {rc : Int32 → Int32 → Mm → Option (Int32 × Mm)} {k_22 : Int32 → Int32 → Int32 → Mm → Option (Int32 × Mm)} {x3 : Int32} {x4 : Int32} {x5 : Int32} {M : Mm} {v : Int32} {M' : Mm} (hE : Has shC (eH E)) (C : Cx RX3 cX3_findsMate 6 p (rmD (1 + dd)) s m args meth c E) (hr : meth.sig.returnType = (some .boolean)) (hrc : ∀ (x3 : Int32) (x4 : Int32) (M : Mm) (v : Int32) (M' : Mm), rc x3 x4 M = some (v, M') → MetA l yX3_findsMate cX3_findsMate 6 (some .boolean) (0 + dd) E [.ref (eA E 21), .ref (eA E 22), .ref (eA E 23), .int x3, .int x4] M (some (.int v)) M') (hk_22 : ∀ (x3 : Int32) (x4 : Int32) (x5 : Int32) (M : Mm), k_22 x3 x4 x5 M = some (v, M') → G p l e (rmD (1 + dd)) s m args below meth c E 6 0 0 (QR below args s E 0 0 (some (.int v)) M') 22 [(0, .ref (eA E 21)), (1, .ref (eA E 22)), (2, .ref (eA E 23)), (3, .int x3), (4, .int x4), (5, .int x5)] [] M) (h : bb_X3_findsMate_21_22_23_22 rc k_22 x3 x4 x5 M = some (v, M')) : G p l e (rmD (1 + dd)) s m args below meth c E 6 0 0 (QR below args s E 0 0 (some (.int v)) M') 22 [(0, .ref (eA E 21)), (1, .ref (eA E 22)), (2, .ref (eA E 23)), (3, .int x3), (4, .int x4), (5, .int x5)] [] M := by
  unfold bb_X3_findsMate_21_22_23_22 at h
  refine G.iload C 5 dX3_findsMate_22 rfl ?_
  refine G.bipush (v := (16 : Int32)) C dX3_findsMate_24 (by decide) ?_
  refine G.icmp_ge (tgt := 93) C dX3_findsMate_26 (by decide) (fun hc => ?_) (fun hc => ?_)
  · have h := it_t h hc
    refine G.iconst (v := (0 : Int32)) C dX3_findsMate_93 (by decide) ?_
    cases h
    exact G.zret C hr rfl dX3_findsMate_94
  · have h := it_f h hc
    refine G.aload_n C 0 dX3_findsMate_29 rfl rfl ?_
    refine G.iload_n C 3 dX3_findsMate_30 rfl rfl ?_
    obtain ⟨hg_1, h⟩ := gd_ex h
    refine G.aI (j := ix x3) C (sc_21 hE) hg_1 rfl dX3_findsMate_31 ?_
    refine G.iconst (v := (1 : Int32)) C dX3_findsMate_32 (by decide) ?_
    refine G.iload C 5 dX3_findsMate_33 rfl ?_
    refine G.isl C dX3_findsMate_35 ?_
    refine G.iand C dX3_findsMate_36 ?_
    refine G.if_eq (tgt := 87) C dX3_findsMate_37 (by decide) (fun hc => ?_) (fun hc => ?_)
    · have h := it_t h hc
      obtain ⟨x5_2, ex5_2, h⟩ := ltv_ex h
      refine G.iinc (L' := [(5, .int x5_2), (0, .ref (eA E 21)), (1, .ref (eA E 22)), (2, .ref (eA E 23)), (3, .int x3), (4, .int x4)]) C 5 dX3_findsMate_87 rfl (ex5_2.trans rfl) (by decide) rfl ?_
      refine G.goto (tgt := 22) C dX3_findsMate_90 (by decide) ?_
      exact G.sub [1, 2, 3, 4, 5, 0] rfl (hk_22 _ _ _ _  h)
    · have h := it_f h hc
      refine G.aload_n C 2 dX3_findsMate_40 rfl rfl ?_
      refine G.iload C 5 dX3_findsMate_41 rfl ?_
      obtain ⟨hg_3, h⟩ := gd_ex h
      refine G.aI (j := ix x5) C (sc_23 hE) hg_3 rfl dX3_findsMate_43 ?_
      refine G.if_eq (tgt := 50) C dX3_findsMate_44 (by decide) (fun hc => ?_) (fun hc => ?_)
      · have h := it_t h hc
        refine G.aload_n C 2 dX3_findsMate_50 rfl rfl ?_
        refine G.iload C 5 dX3_findsMate_51 rfl ?_
        refine G.iconst (v := (1 : Int32)) C dX3_findsMate_53 (by decide) ?_
        obtain ⟨hg_4, h⟩ := gd_ex h
        obtain ⟨M_5, eM_5, h⟩ := ltv_ex h
        refine G.sI (j := (ix x5)) C (sc_23 hE) hg_4 rfl dX3_findsMate_54 eM_5 ?_
        refine G.aload_n C 1 dX3_findsMate_55 rfl rfl ?_
        refine G.iload C 5 dX3_findsMate_56 rfl ?_
        obtain ⟨hg_6, h⟩ := gd_ex h
        refine G.aI (j := ix x5) C (sc_22 hE) hg_6 rfl dX3_findsMate_58 ?_
        refine G.iconst (v := (-1 : Int32)) C dX3_findsMate_59 (by decide) ?_
        refine G.icmp_eq (tgt := 80) C dX3_findsMate_60 (by decide) (fun hc => ?_) (fun hc => ?_)
        · have h := it_t h hc
          refine G.aload_n C 1 dX3_findsMate_80 rfl rfl ?_
          refine G.iload C 5 dX3_findsMate_81 rfl ?_
          refine G.iload_n C 3 dX3_findsMate_83 rfl rfl ?_
          obtain ⟨hg_7, h⟩ := gd_ex h
          obtain ⟨M_8, eM_8, h⟩ := ltv_ex h
          refine G.sI (j := (ix x5)) C (sc_22 hE) hg_7 rfl dX3_findsMate_84 eM_8 ?_
          refine G.iconst (v := (1 : Int32)) C dX3_findsMate_85 (by decide) ?_
          cases h
          exact G.zret C hr rfl dX3_findsMate_86
        · have h := it_f h hc
          refine G.aload_n C 0 dX3_findsMate_63 rfl rfl ?_
          refine G.aload_n C 1 dX3_findsMate_64 rfl rfl ?_
          refine G.aload_n C 2 dX3_findsMate_65 rfl rfl ?_
          refine G.aload_n C 1 dX3_findsMate_66 rfl rfl ?_
          refine G.iload C 5 dX3_findsMate_67 rfl ?_
          obtain ⟨hg_9, h⟩ := gd_ex h
          refine G.aI (j := ix x5) C (sc_22 hE) hg_9 rfl dX3_findsMate_69 ?_
          refine G.iload C 4 dX3_findsMate_70 rfl ?_
          refine G.iconst (v := (1 : Int32)) C dX3_findsMate_72 (by decide) ?_
          refine G.iadd C dX3_findsMate_73 ?_
          obtain ⟨v_12, M_11, hv_10, h⟩ := bd2_ex h
          refine G.callS (rest := []) C (hrc _ _ _ _ _  hv_10) ⟨tg_611, tg_93, ok_X3_findsMate, (show 0 + dd + 1 ≤ 1 + dd by omega), (show 8 + (6 + 11) + 64 * (0 + dd) ≤ 64 * (1 + dd) by omega)⟩ tg_609 tg_610 rfl (Nat.le_of_ble_eq_true rfl) dX3_findsMate_74 ⟨Nat.le_refl 0, Nat.le_refl 0⟩ ?_
          refine G.if_eq (tgt := 87) C dX3_findsMate_77 (by decide) (fun hc => ?_) (fun hc => ?_)
          · have h := it_t h hc
            obtain ⟨x5_13, ex5_13, h⟩ := ltv_ex h
            refine G.iinc (L' := [(5, .int x5_13), (0, .ref (eA E 21)), (1, .ref (eA E 22)), (2, .ref (eA E 23)), (3, .int x3), (4, .int x4)]) C 5 dX3_findsMate_87 rfl (ex5_13.trans rfl) (by decide) rfl ?_
            refine G.goto (tgt := 22) C dX3_findsMate_90 (by decide) ?_
            exact G.sub [1, 2, 3, 4, 5, 0] rfl (hk_22 _ _ _ _  h)
          · have h := it_f h hc
            refine G.aload_n C 1 dX3_findsMate_80 rfl rfl ?_
            refine G.iload C 5 dX3_findsMate_81 rfl ?_
            refine G.iload_n C 3 dX3_findsMate_83 rfl rfl ?_
            obtain ⟨hg_14, h⟩ := gd_ex h
            obtain ⟨M_15, eM_15, h⟩ := ltv_ex h
            refine G.sI (j := (ix x5)) C (sc_22 hE) hg_14 rfl dX3_findsMate_84 eM_15 ?_
            refine G.iconst (v := (1 : Int32)) C dX3_findsMate_85 (by decide) ?_
            cases h
            exact G.zret C hr rfl dX3_findsMate_86
      · have h := it_f h hc
        refine G.goto (tgt := 87) C dX3_findsMate_47 (by decide) ?_
        obtain ⟨x5_16, ex5_16, h⟩ := ltv_ex h
        refine G.iinc (L' := [(5, .int x5_16), (0, .ref (eA E 21)), (1, .ref (eA E 22)), (2, .ref (eA E 23)), (3, .int x3), (4, .int x4)]) C 5 dX3_findsMate_87 rfl (ex5_16.trans rfl) (by decide) rfl ?_
        refine G.goto (tgt := 22) C dX3_findsMate_90 (by decide) ?_
        exact G.sub [1, 2, 3, 4, 5, 0] rfl (hk_22 _ _ _ _  h)
def b_X3_findsMate_21_22_23_22 (rc : Int32 → Int32 → Mm → Option (Int32 × Mm)) : Nat → Int32 → Int32 → Int32 → Mm → Option (Int32 × Mm)
  | 0, _, _, _, _ => none
  | n + 1, x3, x4, x5, M => bb_X3_findsMate_21_22_23_22 rc (b_X3_findsMate_21_22_23_22 rc n) x3 x4 x5 M
set_option maxHeartbeats 4000000 in
theorem g_X3_findsMate_21_22_23_22 {dd : Nat}  {rc : Int32 → Int32 → Mm → Option (Int32 × Mm)} {n : Nat} {x3 : Int32} {x4 : Int32} {x5 : Int32} {M : Mm} {v : Int32} {M' : Mm} (hE : Has shC (eH E)) (C : Cx RX3 cX3_findsMate 6 p (rmD (1 + dd)) s m args meth c E) (hr : meth.sig.returnType = (some .boolean)) (hrc : ∀ (x3 : Int32) (x4 : Int32) (M : Mm) (v : Int32) (M' : Mm), rc x3 x4 M = some (v, M') → MetA l yX3_findsMate cX3_findsMate 6 (some .boolean) (0 + dd) E [.ref (eA E 21), .ref (eA E 22), .ref (eA E 23), .int x3, .int x4] M (some (.int v)) M') (h : b_X3_findsMate_21_22_23_22 rc n x3 x4 x5 M = some (v, M')) : G p l e (rmD (1 + dd)) s m args below meth c E 6 0 0 (QR below args s E 0 0 (some (.int v)) M') 22 [(0, .ref (eA E 21)), (1, .ref (eA E 22)), (2, .ref (eA E 23)), (3, .int x3), (4, .int x4), (5, .int x5)] [] M := by
  induction n generalizing x3 x4 x5 M with
  | zero => cases h
  | succ n ih => exact gb_X3_findsMate_21_22_23_22 hE C hr hrc (fun _ _ _ _ => ih)  h
def bb_X3_findsMate_21_22_23_0 (rc : Int32 → Int32 → Mm → Option (Int32 × Mm)) (x3 : Int32) (x4 : Int32) (M : Mm) : Option (Int32 × Mm) := if (16 : Int32) < x4 then (some ((0 : Int32), M)) else (if x3 < 0 then (some ((0 : Int32), M)) else (if x3 < (16 : Int32) then (b_X3_findsMate_21_22_23_22 rc FU x3 x4 (0 : Int32) M) else (some ((0 : Int32), M))))
set_option maxHeartbeats 4000000 in
set_option maxRecDepth 100000 in
theorem gb_X3_findsMate_21_22_23_0 {dd : Nat}  {rc : Int32 → Int32 → Mm → Option (Int32 × Mm)} {x3 : Int32} {x4 : Int32} {M : Mm} {v : Int32} {M' : Mm} (hE : Has shC (eH E)) (C : Cx RX3 cX3_findsMate 6 p (rmD (1 + dd)) s m args meth c E) (hr : meth.sig.returnType = (some .boolean)) (hrc : ∀ (x3 : Int32) (x4 : Int32) (M : Mm) (v : Int32) (M' : Mm), rc x3 x4 M = some (v, M') → MetA l yX3_findsMate cX3_findsMate 6 (some .boolean) (0 + dd) E [.ref (eA E 21), .ref (eA E 22), .ref (eA E 23), .int x3, .int x4] M (some (.int v)) M') (h : bb_X3_findsMate_21_22_23_0 rc x3 x4 M = some (v, M')) : G p l e (rmD (1 + dd)) s m args below meth c E 6 0 0 (QR below args s E 0 0 (some (.int v)) M') 0 [(0, .ref (eA E 21)), (1, .ref (eA E 22)), (2, .ref (eA E 23)), (3, .int x3), (4, .int x4)] [] M := by
  unfold bb_X3_findsMate_21_22_23_0 at h
  refine G.iload C 4 dX3_findsMate_0 rfl ?_
  refine G.bipush (v := (16 : Int32)) C dX3_findsMate_2 (by decide) ?_
  refine G.icmp_gt (tgt := 17) C dX3_findsMate_4 (by decide) (fun hc => ?_) (fun hc => ?_)
  · have h := it_t h hc
    refine G.iconst (v := (0 : Int32)) C dX3_findsMate_17 (by decide) ?_
    cases h
    exact G.zret C hr rfl dX3_findsMate_18
  · have h := it_f h hc
    refine G.iload_n C 3 dX3_findsMate_7 rfl rfl ?_
    refine G.if_lt (tgt := 17) C dX3_findsMate_8 (by decide) (fun hc => ?_) (fun hc => ?_)
    · have h := it_t h hc
      refine G.iconst (v := (0 : Int32)) C dX3_findsMate_17 (by decide) ?_
      cases h
      exact G.zret C hr rfl dX3_findsMate_18
    · have h := it_f h hc
      refine G.iload_n C 3 dX3_findsMate_11 rfl rfl ?_
      refine G.bipush (v := (16 : Int32)) C dX3_findsMate_12 (by decide) ?_
      refine G.icmp_lt (tgt := 19) C dX3_findsMate_14 (by decide) (fun hc => ?_) (fun hc => ?_)
      · have h := it_t h hc
        refine G.iconst (v := (0 : Int32)) C dX3_findsMate_19 (by decide) ?_
        refine G.istore (L' := [(5, .int (0 : Int32)), (0, .ref (eA E 21)), (1, .ref (eA E 22)), (2, .ref (eA E 23)), (3, .int x3), (4, .int x4)]) C dX3_findsMate_20 rfl (by decide) rfl ?_
        exact G.sub [1, 2, 3, 4, 5, 0] rfl (g_X3_findsMate_21_22_23_22 hE C hr hrc  h)
      · have h := it_f h hc
        refine G.iconst (v := (0 : Int32)) C dX3_findsMate_17 (by decide) ?_
        cases h
        exact G.zret C hr rfl dX3_findsMate_18
def fr_X3_findsMate_21_22_23 : Nat → Int32 → Int32 → Mm → Option (Int32 × Mm)
  | 0, _, _, _ => none
  | n + 1, x3, x4, M => (bb_X3_findsMate_21_22_23_0 (fr_X3_findsMate_21_22_23 n) x3 x4 M)
theorem sr_X3_findsMate_21_22_23 {l : Launch} {E : Ev} (hE : Has shC (eH E)) (n : Nat) : ∀ (x3 : Int32) (x4 : Int32) (M : Mm) (v : Int32) (M' : Mm), fr_X3_findsMate_21_22_23 n x3 x4 M = some (v, M') → MetA l yX3_findsMate cX3_findsMate 6 (some .boolean) (0 + n) E [.ref (eA E 21), .ref (eA E 22), .ref (eA E 23), .int x3, .int x4] M (some (.int v)) M' := by
  induction n with
  | zero => intros; rename_i h; cases h
  | succ n ih =>
    intro x3 x4 M v M'  h
    refine MetA.of (by decide +kernel) (Nat.le_of_ble_eq_true rfl) ?_
    intro p e s m below meth c C hr hnm
    rw [show 0 + (n + 1) = 1 + n by omega] at C ⊢
    exact G.sub [0, 1, 2, 3, 4] rfl (gb_X3_findsMate_21_22_23_0 (dd := n) hE C hr ih  h)
def f_X3_findsMate_21_22_23 (x3 : Int32) (x4 : Int32) (M : Mm) : Option (Int32 × Mm) := fr_X3_findsMate_21_22_23 20 x3 x4 M
theorem s_X3_findsMate_21_22_23 {l : Launch} {E : Ev} {x3 : Int32} {x4 : Int32} {M : Mm} {v : Int32} {M' : Mm} (hE : Has shC (eH E)) (h : f_X3_findsMate_21_22_23 x3 x4 M = some (v, M')) : MetA l yX3_findsMate cX3_findsMate 6 (some .boolean) 20 E [.ref (eA E 21), .ref (eA E 22), .ref (eA E 23), .int x3, .int x4] M (some (.int v)) M' := sr_X3_findsMate_21_22_23 hE 20 _ _ _ _ _  h
def bb_X3_mostPairs_19_12 (k_12 : Int32 → Int32 → Mm → Option (Int32 × Mm)) (x1 : Int32) (x2 : Int32) (M : Mm) : Option (Int32 × Mm) := if (16 : Int32) ≤ x2 then (some (x1, M)) else (bd (f_J7_fill_53178_23 (0 : Int32) M) fun M_4 => gd (inb x2 16) (if (M_4.1 21 (ix x2)) = 0 then (ltv (x2 + (1 : Int32)) fun x2_6 => k_12 x1 x2_6 M_4) else (bd2 (f_X3_findsMate_21_22_23 x2 (0 : Int32) M_4) fun v_9 M_8 => if v_9 = 0 then (ltv (x2 + (1 : Int32)) fun x2_10 => k_12 x1 x2_10 M_8) else (ltv (x1 + (1 : Int32)) fun x1_11 => ltv (x2 + (1 : Int32)) fun x2_12 => k_12 x1_11 x2_12 M_8))))
set_option maxHeartbeats 4000000 in
set_option maxRecDepth 100000 in
theorem gb_X3_mostPairs_19_12  {k_12 : Int32 → Int32 → Mm → Option (Int32 × Mm)} {x1 : Int32} {x2 : Int32} {M : Mm} {v : Int32} {M' : Mm} (hE : Has shC (eH E)) (C : Cx RX3 cX3_mostPairs 3 p (rmD 21) s m args meth c E) (hr : meth.sig.returnType = (some .int)) (hk_12 : ∀ (x1 : Int32) (x2 : Int32) (M : Mm), k_12 x1 x2 M = some (v, M') → G p l e (rmD 21) s m args below meth c E 3 0 0 (QR below args s E 0 0 (some (.int v)) M') 12 [(0, .ref (eA E 19)), (1, .int x1), (2, .int x2)] [] M) (h : bb_X3_mostPairs_19_12 k_12 x1 x2 M = some (v, M')) : G p l e (rmD 21) s m args below meth c E 3 0 0 (QR below args s E 0 0 (some (.int v)) M') 12 [(0, .ref (eA E 19)), (1, .int x1), (2, .int x2)] [] M := by
  unfold bb_X3_mostPairs_19_12 at h
  refine G.iload_n C 2 dX3_mostPairs_12 rfl rfl ?_
  refine G.bipush (v := (16 : Int32)) C dX3_mostPairs_13 (by decide) ?_
  refine G.icmp_ge (tgt := 64) C dX3_mostPairs_15 (by decide) (fun hc => ?_) (fun hc => ?_)
  · have h := it_t h hc
    refine G.iload_n C 1 dX3_mostPairs_64 rfl rfl ?_
    cases h
    exact G.iret C hr dX3_mostPairs_65
  · have h := it_f h hc
    refine G.aload_n C 0 dX3_mostPairs_18 rfl rfl ?_
    refine G.getR (k := 3) C k_X3 (sc_19 hE) rfl (by decide) tg_230 dX3_mostPairs_19 ?_
    refine G.iconst (v := (0 : Int32)) C dX3_mostPairs_22 (by decide) ?_
    obtain ⟨M_4, hv_3, h⟩ := bd_ex h
    refine G.callS (rest := []) C (s_J7_fill_53178_23 hE  hv_3) ⟨tg_411, tg_99, ok_J7_fill_53178, Nat.le_of_ble_eq_true rfl, Nat.le_of_ble_eq_true rfl⟩ tg_608 tg_410 rfl (Nat.le_of_ble_eq_true rfl) dX3_mostPairs_23 ⟨Nat.le_refl 0, Nat.le_refl 0⟩ ?_
    refine G.aload_n C 0 dX3_mostPairs_26 rfl rfl ?_
    refine G.getR (k := 1) C k_X3 (sc_19 hE) rfl (by decide) tg_228 dX3_mostPairs_27 ?_
    refine G.iload_n C 2 dX3_mostPairs_30 rfl rfl ?_
    obtain ⟨hg_5, h⟩ := gd_ex h
    refine G.aI (j := ix x2) C (sc_21 hE) hg_5 rfl dX3_mostPairs_31 ?_
    refine G.if_eq (tgt := 58) C dX3_mostPairs_32 (by decide) (fun hc => ?_) (fun hc => ?_)
    · have h := it_t h hc
      obtain ⟨x2_6, ex2_6, h⟩ := ltv_ex h
      refine G.iinc (L' := [(2, .int x2_6), (0, .ref (eA E 19)), (1, .int x1)]) C 2 dX3_mostPairs_58 rfl (ex2_6.trans rfl) (by decide) rfl ?_
      refine G.goto (tgt := 12) C dX3_mostPairs_61 (by decide) ?_
      exact G.sub [1, 2, 0] rfl (hk_12 _ _ _  h)
    · have h := it_f h hc
      refine G.aload_n C 0 dX3_mostPairs_35 rfl rfl ?_
      refine G.getR (k := 1) C k_X3 (sc_19 hE) rfl (by decide) tg_228 dX3_mostPairs_36 ?_
      refine G.aload_n C 0 dX3_mostPairs_39 rfl rfl ?_
      refine G.getR (k := 2) C k_X3 (sc_19 hE) rfl (by decide) tg_229 dX3_mostPairs_40 ?_
      refine G.aload_n C 0 dX3_mostPairs_43 rfl rfl ?_
      refine G.getR (k := 3) C k_X3 (sc_19 hE) rfl (by decide) tg_230 dX3_mostPairs_44 ?_
      refine G.iload_n C 2 dX3_mostPairs_47 rfl rfl ?_
      refine G.iconst (v := (0 : Int32)) C dX3_mostPairs_48 (by decide) ?_
      obtain ⟨v_9, M_8, hv_7, h⟩ := bd2_ex h
      refine G.callS (rest := []) C (s_X3_findsMate_21_22_23 hE  hv_7) ⟨tg_611, tg_93, ok_X3_findsMate, Nat.le_of_ble_eq_true rfl, Nat.le_of_ble_eq_true rfl⟩ tg_609 tg_610 rfl (Nat.le_of_ble_eq_true rfl) dX3_mostPairs_49 ⟨Nat.le_refl 0, Nat.le_refl 0⟩ ?_
      refine G.if_eq (tgt := 58) C dX3_mostPairs_52 (by decide) (fun hc => ?_) (fun hc => ?_)
      · have h := it_t h hc
        obtain ⟨x2_10, ex2_10, h⟩ := ltv_ex h
        refine G.iinc (L' := [(2, .int x2_10), (0, .ref (eA E 19)), (1, .int x1)]) C 2 dX3_mostPairs_58 rfl (ex2_10.trans rfl) (by decide) rfl ?_
        refine G.goto (tgt := 12) C dX3_mostPairs_61 (by decide) ?_
        exact G.sub [1, 2, 0] rfl (hk_12 _ _ _  h)
      · have h := it_f h hc
        obtain ⟨x1_11, ex1_11, h⟩ := ltv_ex h
        refine G.iinc (L' := [(1, .int x1_11), (0, .ref (eA E 19)), (2, .int x2)]) C 1 dX3_mostPairs_55 rfl (ex1_11.trans rfl) (by decide) rfl ?_
        obtain ⟨x2_12, ex2_12, h⟩ := ltv_ex h
        refine G.iinc (L' := [(2, .int x2_12), (1, .int x1_11), (0, .ref (eA E 19))]) C 2 dX3_mostPairs_58 rfl (ex2_12.trans rfl) (by decide) rfl ?_
        refine G.goto (tgt := 12) C dX3_mostPairs_61 (by decide) ?_
        exact G.sub [2, 1, 0] rfl (hk_12 _ _ _  h)
def b_X3_mostPairs_19_12 : Nat → Int32 → Int32 → Mm → Option (Int32 × Mm)
  | 0, _, _, _ => none
  | n + 1, x1, x2, M => bb_X3_mostPairs_19_12 (b_X3_mostPairs_19_12 n) x1 x2 M
set_option maxHeartbeats 4000000 in
theorem g_X3_mostPairs_19_12  {n : Nat} {x1 : Int32} {x2 : Int32} {M : Mm} {v : Int32} {M' : Mm} (hE : Has shC (eH E)) (C : Cx RX3 cX3_mostPairs 3 p (rmD 21) s m args meth c E) (hr : meth.sig.returnType = (some .int)) (h : b_X3_mostPairs_19_12 n x1 x2 M = some (v, M')) : G p l e (rmD 21) s m args below meth c E 3 0 0 (QR below args s E 0 0 (some (.int v)) M') 12 [(0, .ref (eA E 19)), (1, .int x1), (2, .int x2)] [] M := by
  induction n generalizing x1 x2 M with
  | zero => cases h
  | succ n ih => exact gb_X3_mostPairs_19_12 hE C hr (fun _ _ _ => ih)  h
def bb_X3_mostPairs_19_0  (M : Mm) : Option (Int32 × Mm) := bd (f_J7_fill_53178_22 (-1 : Int32) M) fun M_2 => b_X3_mostPairs_19_12 FU (0 : Int32) (0 : Int32) M_2
set_option maxHeartbeats 4000000 in
set_option maxRecDepth 100000 in
theorem gb_X3_mostPairs_19_0   {M : Mm} {v : Int32} {M' : Mm} (hE : Has shC (eH E)) (C : Cx RX3 cX3_mostPairs 3 p (rmD 21) s m args meth c E) (hr : meth.sig.returnType = (some .int)) (h : bb_X3_mostPairs_19_0 M = some (v, M')) : G p l e (rmD 21) s m args below meth c E 3 0 0 (QR below args s E 0 0 (some (.int v)) M') 0 [(0, .ref (eA E 19))] [] M := by
  unfold bb_X3_mostPairs_19_0 at h
  refine G.aload_n C 0 dX3_mostPairs_0 rfl rfl ?_
  refine G.getR (k := 2) C k_X3 (sc_19 hE) rfl (by decide) tg_229 dX3_mostPairs_1 ?_
  refine G.iconst (v := (-1 : Int32)) C dX3_mostPairs_4 (by decide) ?_
  obtain ⟨M_2, hv_1, h⟩ := bd_ex h
  refine G.callS (rest := []) C (s_J7_fill_53178_22 hE  hv_1) ⟨tg_411, tg_99, ok_J7_fill_53178, Nat.le_of_ble_eq_true rfl, Nat.le_of_ble_eq_true rfl⟩ tg_608 tg_410 rfl (Nat.le_of_ble_eq_true rfl) dX3_mostPairs_5 ⟨Nat.le_refl 0, Nat.le_refl 0⟩ ?_
  refine G.iconst (v := (0 : Int32)) C dX3_mostPairs_8 (by decide) ?_
  refine G.istore_n (L' := [(1, .int (0 : Int32)), (0, .ref (eA E 19))]) C dX3_mostPairs_9 rfl rfl (by decide) rfl ?_
  refine G.iconst (v := (0 : Int32)) C dX3_mostPairs_10 (by decide) ?_
  refine G.istore_n (L' := [(2, .int (0 : Int32)), (1, .int (0 : Int32)), (0, .ref (eA E 19))]) C dX3_mostPairs_11 rfl rfl (by decide) rfl ?_
  exact G.sub [2, 1, 0] rfl (g_X3_mostPairs_19_12 hE C hr  h)
def f_X3_mostPairs_19  (M : Mm) : Option (Int32 × Mm) := bb_X3_mostPairs_19_0 M
theorem s_X3_mostPairs_19 {l : Launch} {E : Ev}  {M : Mm} {v : Int32} {M' : Mm} (hE : Has shC (eH E)) (h : f_X3_mostPairs_19 M = some (v, M')) : MetA l yX3_mostPairs cX3_mostPairs 3 (some .int) 21 E [.ref (eA E 19)] M (some (.int v)) M' := by
  refine MetA.of (by decide +kernel) (Nat.le_of_ble_eq_true rfl) ?_
  intro p e s m below meth c C hr hnm
  exact G.sub [0] rfl (gb_X3_mostPairs_19_0 hE C hr  h)
def bb_X3_fewestWithout_19_59 (k_59 : Int64 → Int64 → Int64 → Int32 → Int32 → Mm → Option (Int32 × Mm)) (x3 : Int64) (x9 : Int64) (x11 : Int64) (x13 : Int32) (x14 : Int32) (M : Mm) : Option (Int32 × Mm) := if (32 : Int32) ≤ x14 then (bd (f_X3_layCrossings_19 x11 M) fun M_7 => bd2 (f_X3_mostPairs_19 M_7) fun v_10 M_9 => some (x13 + v_10, M_9)) else (if (x3 &&& (shL (1 : Int64) x14)) = (0 : Int64) then (gd (inb x14 32) (if ((M.2 20 (ix x14)) &&& x9) = (0 : Int64) then (ltv (x14 + (1 : Int32)) fun x14_13 => k_59 x3 x9 x11 x13 x14_13 M) else (ltv (x13 + (1 : Int32)) fun x13_14 => gd (inb x14 32) (ltv (x11 &&& ((M.2 20 (ix x14)) ^^^ (-1 : Int64))) fun x11_16 => ltv (x14 + (1 : Int32)) fun x14_17 => k_59 x3 x9 x11_16 x13_14 x14_17 M)))) else (ltv (x14 + (1 : Int32)) fun x14_11 => k_59 x3 x9 x11 x13 x14_11 M))
set_option maxHeartbeats 4000000 in
set_option maxRecDepth 100000 in
theorem gb_X3_fewestWithout_19_59  {k_59 : Int64 → Int64 → Int64 → Int32 → Int32 → Mm → Option (Int32 × Mm)} {x3 : Int64} {x9 : Int64} {x11 : Int64} {x13 : Int32} {x14 : Int32} {M : Mm} {v : Int32} {M' : Mm} (hE : Has shC (eH E)) (C : Cx RX3 cX3_fewestWithout 15 p (rmD 22) s m args meth c E) (hr : meth.sig.returnType = (some .int)) (hk_59 : ∀ (x3 : Int64) (x9 : Int64) (x11 : Int64) (x13 : Int32) (x14 : Int32) (M : Mm), k_59 x3 x9 x11 x13 x14 M = some (v, M') → G p l e (rmD 22) s m args below meth c E 15 0 0 (QR below args s E 0 0 (some (.int v)) M') 59 [(0, .ref (eA E 19)), (3, .long x3), (9, .long x9), (11, .long x11), (13, .int x13), (14, .int x14)] [] M) (h : bb_X3_fewestWithout_19_59 k_59 x3 x9 x11 x13 x14 M = some (v, M')) : G p l e (rmD 22) s m args below meth c E 15 0 0 (QR below args s E 0 0 (some (.int v)) M') 59 [(0, .ref (eA E 19)), (3, .long x3), (9, .long x9), (11, .long x11), (13, .int x13), (14, .int x14)] [] M := by
  unfold bb_X3_fewestWithout_19_59 at h
  refine G.iload C 5 dX3_fewestWithout_59 rfl ?_
  refine G.bipush (v := (32 : Int32)) C dX3_fewestWithout_61 (by decide) ?_
  refine G.icmp_ge (tgt := 117) C dX3_fewestWithout_63 (by decide) (fun hc => ?_) (fun hc => ?_)
  · have h := it_t h hc
    refine G.aload_n C 0 dX3_fewestWithout_117 rfl rfl ?_
    refine G.lload C 3 dX3_fewestWithout_118 rfl ?_
    obtain ⟨M_7, hv_6, h⟩ := bd_ex h
    refine G.callV (rest := []) C (s_X3_layCrossings_19 hE  hv_6) ⟨tg_603, tg_93, ok_X3_layCrossings, Nat.le_of_ble_eq_true rfl, Nat.le_of_ble_eq_true rfl⟩ tg_600 tg_602 tg_4 (sc_19 hE) rfl rfl (Nat.le_of_ble_eq_true rfl) dX3_fewestWithout_120 ⟨Nat.le_refl 0, Nat.le_refl 0⟩ ?_
    refine G.iload C 4 dX3_fewestWithout_123 rfl ?_
    refine G.aload_n C 0 dX3_fewestWithout_125 rfl rfl ?_
    obtain ⟨v_10, M_9, hv_8, h⟩ := bd2_ex h
    refine G.callV (rest := [.int x13]) C (s_X3_mostPairs_19 hE  hv_8) ⟨tg_607, tg_93, ok_X3_mostPairs, Nat.le_of_ble_eq_true rfl, Nat.le_of_ble_eq_true rfl⟩ tg_604 tg_606 tg_5 (sc_19 hE) rfl rfl (Nat.le_of_ble_eq_true rfl) dX3_fewestWithout_126 ⟨Nat.le_refl 0, Nat.le_refl 0⟩ ?_
    refine G.iadd C dX3_fewestWithout_129 ?_
    cases h
    exact G.iret C hr dX3_fewestWithout_130
  · have h := it_f h hc
    refine G.lload_n C 1 dX3_fewestWithout_66 rfl rfl ?_
    refine G.lconst (v := (1 : Int64)) C dX3_fewestWithout_67 (by decide) ?_
    refine G.iload C 5 dX3_fewestWithout_68 rfl ?_
    refine G.lshl (v := shL (1 : Int64) x14) C dX3_fewestWithout_70 rfl ?_
    refine G.land C dX3_fewestWithout_71 ?_
    refine G.lconst (v := (0 : Int64)) C dX3_fewestWithout_72 (by decide) ?_
    refine G.lcmp C dX3_fewestWithout_73 (G.if_ne (tgt := 111) C dX3_fewestWithout_74 (by decide) (fun hc => ?_) (fun hc => ?_))
    · have h := it_f h (lgc_ne.mp hc)
      obtain ⟨x14_11, ex14_11, h⟩ := ltv_ex h
      refine G.iinc (L' := [(14, .int x14_11), (0, .ref (eA E 19)), (3, .long x3), (9, .long x9), (11, .long x11), (13, .int x13)]) C 5 dX3_fewestWithout_111 rfl (ex14_11.trans rfl) (by decide) rfl ?_
      refine G.goto (tgt := 59) C dX3_fewestWithout_114 (by decide) ?_
      exact G.sub [1, 2, 3, 4, 5, 0] rfl (hk_59 _ _ _ _ _ _  h)
    · have h := it_t h (lgc_eq.mp hc)
      refine G.aload_n C 0 dX3_fewestWithout_77 rfl rfl ?_
      refine G.getR (k := 0) C k_X3 (sc_19 hE) rfl (by decide) tg_227 dX3_fewestWithout_78 ?_
      refine G.iload C 5 dX3_fewestWithout_81 rfl ?_
      obtain ⟨hg_12, h⟩ := gd_ex h
      refine G.aJ (j := ix x14) C (sc_20 hE) hg_12 rfl dX3_fewestWithout_83 ?_
      refine G.lload C 2 dX3_fewestWithout_84 rfl ?_
      refine G.land C dX3_fewestWithout_86 ?_
      refine G.lconst (v := (0 : Int64)) C dX3_fewestWithout_87 (by decide) ?_
      refine G.lcmp C dX3_fewestWithout_88 (G.if_eq (tgt := 111) C dX3_fewestWithout_89 (by decide) (fun hc => ?_) (fun hc => ?_))
      · have h := it_t h (lgc_eq.mp hc)
        obtain ⟨x14_13, ex14_13, h⟩ := ltv_ex h
        refine G.iinc (L' := [(14, .int x14_13), (0, .ref (eA E 19)), (3, .long x3), (9, .long x9), (11, .long x11), (13, .int x13)]) C 5 dX3_fewestWithout_111 rfl (ex14_13.trans rfl) (by decide) rfl ?_
        refine G.goto (tgt := 59) C dX3_fewestWithout_114 (by decide) ?_
        exact G.sub [1, 2, 3, 4, 5, 0] rfl (hk_59 _ _ _ _ _ _  h)
      · have h := it_f h ((not_congr lgc_eq).mp hc)
        obtain ⟨x13_14, ex13_14, h⟩ := ltv_ex h
        refine G.iinc (L' := [(13, .int x13_14), (0, .ref (eA E 19)), (3, .long x3), (9, .long x9), (11, .long x11), (14, .int x14)]) C 4 dX3_fewestWithout_92 rfl (ex13_14.trans rfl) (by decide) rfl ?_
        refine G.lload C 4 dX3_fewestWithout_95 rfl ?_
        refine G.aload_n C 1 dX3_fewestWithout_97 rfl rfl ?_
        refine G.getR (k := 0) C k_X3 (sc_19 hE) rfl (by decide) tg_227 dX3_fewestWithout_98 ?_
        refine G.iload C 5 dX3_fewestWithout_101 rfl ?_
        obtain ⟨hg_15, h⟩ := gd_ex h
        refine G.aJ (j := ix x14) C (sc_20 hE) hg_15 rfl dX3_fewestWithout_103 ?_
        refine G.ldc2 C tg_599 dX3_fewestWithout_104 ?_
        refine G.lxor C dX3_fewestWithout_107 ?_
        refine G.land C dX3_fewestWithout_108 ?_
        obtain ⟨x11_16, ex11_16, h⟩ := ltv_ex h
        refine G.lstore (L' := [(11, .long x11_16), (13, .int x13_14), (0, .ref (eA E 19)), (3, .long x3), (9, .long x9), (14, .int x14)]) C dX3_fewestWithout_109 ex11_16 (by decide) rfl ?_
        obtain ⟨x14_17, ex14_17, h⟩ := ltv_ex h
        refine G.iinc (L' := [(14, .int x14_17), (11, .long x11_16), (13, .int x13_14), (0, .ref (eA E 19)), (3, .long x3), (9, .long x9)]) C 5 dX3_fewestWithout_111 rfl (ex14_17.trans rfl) (by decide) rfl ?_
        refine G.goto (tgt := 59) C dX3_fewestWithout_114 (by decide) ?_
        exact G.sub [3, 4, 5, 1, 2, 0] rfl (hk_59 _ _ _ _ _ _  h)
def b_X3_fewestWithout_19_59 : Nat → Int64 → Int64 → Int64 → Int32 → Int32 → Mm → Option (Int32 × Mm)
  | 0, _, _, _, _, _, _ => none
  | n + 1, x3, x9, x11, x13, x14, M => bb_X3_fewestWithout_19_59 (b_X3_fewestWithout_19_59 n) x3 x9 x11 x13 x14 M
set_option maxHeartbeats 4000000 in
theorem g_X3_fewestWithout_19_59  {n : Nat} {x3 : Int64} {x9 : Int64} {x11 : Int64} {x13 : Int32} {x14 : Int32} {M : Mm} {v : Int32} {M' : Mm} (hE : Has shC (eH E)) (C : Cx RX3 cX3_fewestWithout 15 p (rmD 22) s m args meth c E) (hr : meth.sig.returnType = (some .int)) (h : b_X3_fewestWithout_19_59 n x3 x9 x11 x13 x14 M = some (v, M')) : G p l e (rmD 22) s m args below meth c E 15 0 0 (QR below args s E 0 0 (some (.int v)) M') 59 [(0, .ref (eA E 19)), (3, .long x3), (9, .long x9), (11, .long x11), (13, .int x13), (14, .int x14)] [] M := by
  induction n generalizing x3 x9 x11 x13 x14 M with
  | zero => cases h
  | succ n ih => exact gb_X3_fewestWithout_19_59 hE C hr (fun _ _ _ _ _ _ => ih)  h
def bb_X3_fewestWithout_19_0 (x1 : Int64) (x3 : Int64) (M : Mm) : Option (Int32 × Mm) := bd (f_X3_takenByAny_19 (0 : Int32) x3 M) fun v_2 => bd (f_X3_takenByAny_19 (16 : Int32) x3 M) fun v_4 => if ((x1 &&& (v_2 ^^^ (-1 : Int64))) &&& (v_4 ^^^ (-1 : Int64))) = (0 : Int64) then (ltv (x1 &&& (v_2 ^^^ v_4)) fun x9_5 => b_X3_fewestWithout_19_59 FU x3 x9_5 x1 (0 : Int32) (0 : Int32) M) else (some ((1000 : Int32), M))
set_option maxHeartbeats 4000000 in
set_option maxRecDepth 100000 in
theorem gb_X3_fewestWithout_19_0  {x1 : Int64} {x3 : Int64} {M : Mm} {v : Int32} {M' : Mm} (hE : Has shC (eH E)) (C : Cx RX3 cX3_fewestWithout 15 p (rmD 22) s m args meth c E) (hr : meth.sig.returnType = (some .int)) (h : bb_X3_fewestWithout_19_0 x1 x3 M = some (v, M')) : G p l e (rmD 22) s m args below meth c E 15 0 0 (QR below args s E 0 0 (some (.int v)) M') 0 [(0, .ref (eA E 19)), (1, .long x1), (3, .long x3)] [] M := by
  unfold bb_X3_fewestWithout_19_0 at h
  refine G.aload_n C 0 dX3_fewestWithout_0 rfl rfl ?_
  refine G.iconst (v := (0 : Int32)) C dX3_fewestWithout_1 (by decide) ?_
  refine G.lload_n C 2 dX3_fewestWithout_2 rfl rfl ?_
  obtain ⟨v_2, hv_1, h⟩ := bd_ex h
  refine G.callV (rest := []) C (s_X3_takenByAny_19 hE  hv_1) ⟨tg_598, tg_93, ok_X3_takenByAny, Nat.le_of_ble_eq_true rfl, Nat.le_of_ble_eq_true rfl⟩ tg_595 tg_597 tg_3 (sc_19 hE) rfl rfl (Nat.le_of_ble_eq_true rfl) dX3_fewestWithout_3 ⟨Nat.le_refl 0, Nat.le_refl 0⟩ ?_
  refine G.lstore (L' := [(5, .long v_2), (0, .ref (eA E 19)), (1, .long x1), (3, .long x3)]) C dX3_fewestWithout_6 rfl (by decide) rfl ?_
  refine G.aload_n C 1 dX3_fewestWithout_8 rfl rfl ?_
  refine G.bipush (v := (16 : Int32)) C dX3_fewestWithout_9 (by decide) ?_
  refine G.lload_n C 3 dX3_fewestWithout_11 rfl rfl ?_
  obtain ⟨v_4, hv_3, h⟩ := bd_ex h
  refine G.callV (rest := []) C (s_X3_takenByAny_19 hE  hv_3) ⟨tg_598, tg_93, ok_X3_takenByAny, Nat.le_of_ble_eq_true rfl, Nat.le_of_ble_eq_true rfl⟩ tg_595 tg_597 tg_3 (sc_19 hE) rfl rfl (Nat.le_of_ble_eq_true rfl) dX3_fewestWithout_12 ⟨Nat.le_refl 0, Nat.le_refl 0⟩ ?_
  refine G.lstore (L' := [(7, .long v_4), (5, .long v_2), (0, .ref (eA E 19)), (1, .long x1), (3, .long x3)]) C dX3_fewestWithout_15 rfl (by decide) rfl ?_
  refine G.lload_n C 3 dX3_fewestWithout_17 rfl rfl ?_
  refine G.lload C 1 dX3_fewestWithout_18 rfl ?_
  refine G.ldc2 C tg_599 dX3_fewestWithout_20 ?_
  refine G.lxor C dX3_fewestWithout_23 ?_
  refine G.land C dX3_fewestWithout_24 ?_
  refine G.lload C 0 dX3_fewestWithout_25 rfl ?_
  refine G.ldc2 C tg_599 dX3_fewestWithout_27 ?_
  refine G.lxor C dX3_fewestWithout_30 ?_
  refine G.land C dX3_fewestWithout_31 ?_
  refine G.lconst (v := (0 : Int64)) C dX3_fewestWithout_32 (by decide) ?_
  refine G.lcmp C dX3_fewestWithout_33 (G.if_eq (tgt := 41) C dX3_fewestWithout_34 (by decide) (fun hc => ?_) (fun hc => ?_))
  · have h := it_t h (lgc_eq.mp hc)
    refine G.lload_n C 3 dX3_fewestWithout_41 rfl rfl ?_
    refine G.lload C 1 dX3_fewestWithout_42 rfl ?_
    refine G.lload C 0 dX3_fewestWithout_44 rfl ?_
    refine G.lxor C dX3_fewestWithout_46 ?_
    refine G.land C dX3_fewestWithout_47 ?_
    obtain ⟨x9_5, ex9_5, h⟩ := ltv_ex h
    refine G.lstore (L' := [(9, .long x9_5), (7, .long v_4), (5, .long v_2), (0, .ref (eA E 19)), (1, .long x1), (3, .long x3)]) C dX3_fewestWithout_48 ex9_5 (by decide) rfl ?_
    refine G.lload_n C 4 dX3_fewestWithout_50 rfl rfl ?_
    refine G.lstore (L' := [(11, .long x1), (9, .long x9_5), (7, .long v_4), (5, .long v_2), (0, .ref (eA E 19)), (1, .long x1), (3, .long x3)]) C dX3_fewestWithout_51 rfl (by decide) rfl ?_
    refine G.iconst (v := (0 : Int32)) C dX3_fewestWithout_53 (by decide) ?_
    refine G.istore (L' := [(13, .int (0 : Int32)), (11, .long x1), (9, .long x9_5), (7, .long v_4), (5, .long v_2), (0, .ref (eA E 19)), (1, .long x1), (3, .long x3)]) C dX3_fewestWithout_54 rfl (by decide) rfl ?_
    refine G.iconst (v := (0 : Int32)) C dX3_fewestWithout_56 (by decide) ?_
    refine G.istore (L' := [(14, .int (0 : Int32)), (13, .int (0 : Int32)), (11, .long x1), (9, .long x9_5), (7, .long v_4), (5, .long v_2), (0, .ref (eA E 19)), (1, .long x1), (3, .long x3)]) C dX3_fewestWithout_57 rfl (by decide) rfl ?_
    exact G.sub [6, 8, 3, 2, 1, 0] rfl (g_X3_fewestWithout_19_59 hE C hr  h)
  · have h := it_f h ((not_congr lgc_eq).mp hc)
    refine G.sipush (v := (1000 : Int32)) C dX3_fewestWithout_37 (by decide) ?_
    cases h
    exact G.iret C hr dX3_fewestWithout_40
def f_X3_fewestWithout_19 (x1 : Int64) (x3 : Int64) (M : Mm) : Option (Int32 × Mm) := bb_X3_fewestWithout_19_0 x1 x3 M
theorem s_X3_fewestWithout_19 {l : Launch} {E : Ev} {x1 : Int64} {x3 : Int64} {M : Mm} {v : Int32} {M' : Mm} (hE : Has shC (eH E)) (h : f_X3_fewestWithout_19 x1 x3 M = some (v, M')) : MetA l yX3_fewestWithout cX3_fewestWithout 15 (some .int) 22 E [.ref (eA E 19), .long x1, .long x3] M (some (.int v)) M' := by
  refine MetA.of (by decide +kernel) (Nat.le_of_ble_eq_true rfl) ?_
  intro p e s m below meth c C hr hnm
  exact G.sub [0, 1, 2] rfl (gb_X3_fewestWithout_19_0 hE C hr  h)
def bb_X3_fewest_19_0 (x1 : Int64) (M : Mm) : Option (Int32 × Mm) := bd2 (f_X3_fewestWithout_19 x1 (0 : Int64) M) fun v_3 M_2 => some (v_3, M_2)
set_option maxHeartbeats 4000000 in
set_option maxRecDepth 100000 in
theorem gb_X3_fewest_19_0  {x1 : Int64} {M : Mm} {v : Int32} {M' : Mm} (hE : Has shC (eH E)) (C : Cx RX3 cX3_fewest 3 p (rmD 23) s m args meth c E) (hr : meth.sig.returnType = (some .int)) (h : bb_X3_fewest_19_0 x1 M = some (v, M')) : G p l e (rmD 23) s m args below meth c E 3 0 0 (QR below args s E 0 0 (some (.int v)) M') 0 [(0, .ref (eA E 19)), (1, .long x1)] [] M := by
  unfold bb_X3_fewest_19_0 at h
  refine G.aload_n C 0 dX3_fewest_0 rfl rfl ?_
  refine G.lload_n C 1 dX3_fewest_1 rfl rfl ?_
  refine G.lconst (v := (0 : Int64)) C dX3_fewest_2 (by decide) ?_
  obtain ⟨v_3, M_2, hv_1, h⟩ := bd2_ex h
  refine G.callV (rest := []) C (s_X3_fewestWithout_19 hE  hv_1) ⟨tg_594, tg_93, ok_X3_fewestWithout, Nat.le_of_ble_eq_true rfl, Nat.le_of_ble_eq_true rfl⟩ tg_591 tg_593 tg_2 (sc_19 hE) rfl rfl (Nat.le_of_ble_eq_true rfl) dX3_fewest_3 ⟨Nat.le_refl 0, Nat.le_refl 0⟩ ?_
  cases h
  exact G.iret C hr dX3_fewest_6
def f_X3_fewest_19 (x1 : Int64) (M : Mm) : Option (Int32 × Mm) := bb_X3_fewest_19_0 x1 M
theorem s_X3_fewest_19 {l : Launch} {E : Ev} {x1 : Int64} {M : Mm} {v : Int32} {M' : Mm} (hE : Has shC (eH E)) (h : f_X3_fewest_19 x1 M = some (v, M')) : MetA l yX3_fewest cX3_fewest 3 (some .int) 23 E [.ref (eA E 19), .long x1] M (some (.int v)) M' := by
  refine MetA.of (by decide +kernel) (Nat.le_of_ble_eq_true rfl) ?_
  intro p e s m below meth c C hr hnm
  exact G.sub [0, 1] rfl (gb_X3_fewest_19_0 hE C hr  h)
def bb_X3_leastSet_19_63 (k_16 : Int64 → Int32 → Int64 → Int64 → Int32 → Mm → Option (Int64 × Mm)) (x1 : Int64) (x3 : Int32) (x4 : Int64) (x6 : Int64) (x8 : Int32) (M : Mm) : Option (Int64 × Mm) := ltv (x4 ||| (shL (1 : Int64) x8)) fun x4_10 => ltv (x8 + (-1 : Int32)) fun x8_11 => k_16 x1 x3 x4_10 x6 x8_11 M
set_option maxHeartbeats 4000000 in
set_option maxRecDepth 100000 in
theorem gb_X3_leastSet_19_63  {k_16 : Int64 → Int32 → Int64 → Int64 → Int32 → Mm → Option (Int64 × Mm)} {x1 : Int64} {x3 : Int32} {x4 : Int64} {x6 : Int64} {x8 : Int32} {M : Mm} {v : Int64} {M' : Mm} (hE : Has shC (eH E)) (C : Cx RX3 cX3_leastSet 10 p (rmD 24) s m args meth c E) (hr : meth.sig.returnType = (some .long)) (hk_16 : ∀ (x1 : Int64) (x3 : Int32) (x4 : Int64) (x6 : Int64) (x8 : Int32) (M : Mm), k_16 x1 x3 x4 x6 x8 M = some (v, M') → G p l e (rmD 24) s m args below meth c E 10 0 0 (QR below args s E 0 0 (some (.long v)) M') 16 [(0, .ref (eA E 19)), (1, .long x1), (3, .int x3), (4, .long x4), (6, .long x6), (8, .int x8)] [] M) (h : bb_X3_leastSet_19_63 k_16 x1 x3 x4 x6 x8 M = some (v, M')) : G p l e (rmD 24) s m args below meth c E 10 0 0 (QR below args s E 0 0 (some (.long v)) M') 63 [(0, .ref (eA E 19)), (1, .long x1), (3, .int x3), (4, .long x4), (6, .long x6), (8, .int x8)] [] M := by
  unfold bb_X3_leastSet_19_63 at h
  refine G.lload C 3 dX3_leastSet_63 rfl ?_
  refine G.lconst (v := (1 : Int64)) C dX3_leastSet_65 (by decide) ?_
  refine G.iload C 5 dX3_leastSet_66 rfl ?_
  refine G.lshl (v := shL (1 : Int64) x8) C dX3_leastSet_68 rfl ?_
  refine G.lor C dX3_leastSet_69 ?_
  obtain ⟨x4_10, ex4_10, h⟩ := ltv_ex h
  refine G.lstore (L' := [(4, .long x4_10), (0, .ref (eA E 19)), (1, .long x1), (3, .int x3), (6, .long x6), (8, .int x8)]) C dX3_leastSet_70 ex4_10 (by decide) rfl ?_
  refine G.goto (tgt := 84) C dX3_leastSet_72 (by decide) ?_
  obtain ⟨x8_11, ex8_11, h⟩ := ltv_ex h
  refine G.iinc (L' := [(8, .int x8_11), (4, .long x4_10), (0, .ref (eA E 19)), (1, .long x1), (3, .int x3), (6, .long x6)]) C 5 dX3_leastSet_84 rfl (ex8_11.trans rfl) (by decide) rfl ?_
  refine G.goto (tgt := 16) C dX3_leastSet_87 (by decide) ?_
  exact G.sub [2, 3, 4, 1, 5, 0] rfl (hk_16 _ _ _ _ _ _  h)
def bb_X3_leastSet_19_40 (k_16 : Int64 → Int32 → Int64 → Int64 → Int32 → Mm → Option (Int64 × Mm)) (x1 : Int64) (x3 : Int32) (x4 : Int64) (x6 : Int64) (x8 : Int32) (s0 : Int32) (M : Mm) : Option (Int64 × Mm) := if s0 = 0 then (bd2 (f_X3_fewestWithout_19 x1 (x4 ||| (shL (1 : Int64) x8)) M) fun v_7 M_6 => if v_7 = x3 then (bb_X3_leastSet_19_63 k_16 x1 x3 x4 x6 x8 M_6) else (ltv (x6 ||| (shL (1 : Int64) x8)) fun x6_8 => ltv (x8 + (-1 : Int32)) fun x8_9 => k_16 x1 x3 x4 x6_8 x8_9 M_6)) else (bb_X3_leastSet_19_63 k_16 x1 x3 x4 x6 x8 M)
set_option maxHeartbeats 4000000 in
set_option maxRecDepth 100000 in
theorem gb_X3_leastSet_19_40  {k_16 : Int64 → Int32 → Int64 → Int64 → Int32 → Mm → Option (Int64 × Mm)} {x1 : Int64} {x3 : Int32} {x4 : Int64} {x6 : Int64} {x8 : Int32} {s0 : Int32} {M : Mm} {v : Int64} {M' : Mm} (hE : Has shC (eH E)) (C : Cx RX3 cX3_leastSet 10 p (rmD 24) s m args meth c E) (hr : meth.sig.returnType = (some .long)) (hk_16 : ∀ (x1 : Int64) (x3 : Int32) (x4 : Int64) (x6 : Int64) (x8 : Int32) (M : Mm), k_16 x1 x3 x4 x6 x8 M = some (v, M') → G p l e (rmD 24) s m args below meth c E 10 0 0 (QR below args s E 0 0 (some (.long v)) M') 16 [(0, .ref (eA E 19)), (1, .long x1), (3, .int x3), (4, .long x4), (6, .long x6), (8, .int x8)] [] M) (h : bb_X3_leastSet_19_40 k_16 x1 x3 x4 x6 x8 s0 M = some (v, M')) : G p l e (rmD 24) s m args below meth c E 10 0 0 (QR below args s E 0 0 (some (.long v)) M') 40 [(0, .ref (eA E 19)), (1, .long x1), (3, .int x3), (4, .long x4), (6, .long x6), (8, .int x8)] [.int s0] M := by
  unfold bb_X3_leastSet_19_40 at h
  refine G.istore (L' := [(9, .int s0), (0, .ref (eA E 19)), (1, .long x1), (3, .int x3), (4, .long x4), (6, .long x6), (8, .int x8)]) C dX3_leastSet_40 rfl (by decide) rfl ?_
  refine G.iload C 0 dX3_leastSet_42 rfl ?_
  refine G.if_ne (tgt := 63) C dX3_leastSet_44 (by decide) (fun hc => ?_) (fun hc => ?_)
  · have h := it_f h hc
    exact G.sub [1, 2, 3, 4, 5, 6] rfl (gb_X3_leastSet_19_63 hE C hr hk_16  h)
  · have h := it_t h hc
    refine G.aload_n C 1 dX3_leastSet_47 rfl rfl ?_
    refine G.lload_n C 2 dX3_leastSet_48 rfl rfl ?_
    refine G.lload C 4 dX3_leastSet_49 rfl ?_
    refine G.lconst (v := (1 : Int64)) C dX3_leastSet_51 (by decide) ?_
    refine G.iload C 6 dX3_leastSet_52 rfl ?_
    refine G.lshl (v := shL (1 : Int64) x8) C dX3_leastSet_54 rfl ?_
    refine G.lor C dX3_leastSet_55 ?_
    obtain ⟨v_7, M_6, hv_5, h⟩ := bd2_ex h
    refine G.callV (rest := []) C (s_X3_fewestWithout_19 hE  hv_5) ⟨tg_594, tg_93, ok_X3_fewestWithout, Nat.le_of_ble_eq_true rfl, Nat.le_of_ble_eq_true rfl⟩ tg_591 tg_593 tg_2 (sc_19 hE) rfl rfl (Nat.le_of_ble_eq_true rfl) dX3_leastSet_56 ⟨Nat.le_refl 0, Nat.le_refl 0⟩ ?_
    refine G.iload_n C 3 dX3_leastSet_59 rfl rfl ?_
    refine G.icmp_ne (tgt := 75) C dX3_leastSet_60 (by decide) (fun hc => ?_) (fun hc => ?_)
    · have h := it_f h hc
      refine G.lload C 5 dX3_leastSet_75 rfl ?_
      refine G.lconst (v := (1 : Int64)) C dX3_leastSet_77 (by decide) ?_
      refine G.iload C 6 dX3_leastSet_78 rfl ?_
      refine G.lshl (v := shL (1 : Int64) x8) C dX3_leastSet_80 rfl ?_
      refine G.lor C dX3_leastSet_81 ?_
      obtain ⟨x6_8, ex6_8, h⟩ := ltv_ex h
      refine G.lstore (L' := [(6, .long x6_8), (9, .int s0), (0, .ref (eA E 19)), (1, .long x1), (3, .int x3), (4, .long x4), (8, .int x8)]) C dX3_leastSet_82 ex6_8 (by decide) rfl ?_
      obtain ⟨x8_9, ex8_9, h⟩ := ltv_ex h
      refine G.iinc (L' := [(8, .int x8_9), (6, .long x6_8), (9, .int s0), (0, .ref (eA E 19)), (1, .long x1), (3, .int x3), (4, .long x4)]) C 6 dX3_leastSet_84 rfl (ex8_9.trans rfl) (by decide) rfl ?_
      refine G.goto (tgt := 16) C dX3_leastSet_87 (by decide) ?_
      exact G.sub [3, 4, 5, 6, 1, 0] rfl (hk_16 _ _ _ _ _ _  h)
    · have h := it_t h hc
      exact G.sub [1, 2, 3, 4, 5, 6] rfl (gb_X3_leastSet_19_63 hE C hr hk_16  h)
def bb_X3_leastSet_19_16 (k_16 : Int64 → Int32 → Int64 → Int64 → Int32 → Mm → Option (Int64 × Mm)) (x1 : Int64) (x3 : Int32) (x4 : Int64) (x6 : Int64) (x8 : Int32) (M : Mm) : Option (Int64 × Mm) := if x8 < 0 then (some (x6, M)) else (gd (inb x8 32) (if ((M.2 20 (ix x8)) &&& x1) = (0 : Int64) then (bb_X3_leastSet_19_40 k_16 x1 x3 x4 x6 x8 (1 : Int32) M) else (bb_X3_leastSet_19_40 k_16 x1 x3 x4 x6 x8 (0 : Int32) M)))
set_option maxHeartbeats 4000000 in
set_option maxRecDepth 100000 in
theorem gb_X3_leastSet_19_16  {k_16 : Int64 → Int32 → Int64 → Int64 → Int32 → Mm → Option (Int64 × Mm)} {x1 : Int64} {x3 : Int32} {x4 : Int64} {x6 : Int64} {x8 : Int32} {M : Mm} {v : Int64} {M' : Mm} (hE : Has shC (eH E)) (C : Cx RX3 cX3_leastSet 10 p (rmD 24) s m args meth c E) (hr : meth.sig.returnType = (some .long)) (hk_16 : ∀ (x1 : Int64) (x3 : Int32) (x4 : Int64) (x6 : Int64) (x8 : Int32) (M : Mm), k_16 x1 x3 x4 x6 x8 M = some (v, M') → G p l e (rmD 24) s m args below meth c E 10 0 0 (QR below args s E 0 0 (some (.long v)) M') 16 [(0, .ref (eA E 19)), (1, .long x1), (3, .int x3), (4, .long x4), (6, .long x6), (8, .int x8)] [] M) (h : bb_X3_leastSet_19_16 k_16 x1 x3 x4 x6 x8 M = some (v, M')) : G p l e (rmD 24) s m args below meth c E 10 0 0 (QR below args s E 0 0 (some (.long v)) M') 16 [(0, .ref (eA E 19)), (1, .long x1), (3, .int x3), (4, .long x4), (6, .long x6), (8, .int x8)] [] M := by
  unfold bb_X3_leastSet_19_16 at h
  refine G.iload C 5 dX3_leastSet_16 rfl ?_
  refine G.if_lt (tgt := 90) C dX3_leastSet_18 (by decide) (fun hc => ?_) (fun hc => ?_)
  · have h := it_t h hc
    refine G.lload C 4 dX3_leastSet_90 rfl ?_
    cases h
    exact G.lret C hr dX3_leastSet_92
  · have h := it_f h hc
    refine G.aload_n C 0 dX3_leastSet_21 rfl rfl ?_
    refine G.getR (k := 0) C k_X3 (sc_19 hE) rfl (by decide) tg_227 dX3_leastSet_22 ?_
    refine G.iload C 5 dX3_leastSet_25 rfl ?_
    obtain ⟨hg_4, h⟩ := gd_ex h
    refine G.aJ (j := ix x8) C (sc_20 hE) hg_4 rfl dX3_leastSet_27 ?_
    refine G.lload_n C 1 dX3_leastSet_28 rfl rfl ?_
    refine G.land C dX3_leastSet_29 ?_
    refine G.lconst (v := (0 : Int64)) C dX3_leastSet_30 (by decide) ?_
    refine G.lcmp C dX3_leastSet_31 (G.if_ne (tgt := 39) C dX3_leastSet_32 (by decide) (fun hc => ?_) (fun hc => ?_))
    · have h := it_f h (lgc_ne.mp hc)
      refine G.iconst (v := (0 : Int32)) C dX3_leastSet_39 (by decide) ?_
      exact G.sub [0, 1, 2, 3, 4, 5] rfl (gb_X3_leastSet_19_40 hE C hr hk_16  h)
    · have h := it_t h (lgc_eq.mp hc)
      refine G.iconst (v := (1 : Int32)) C dX3_leastSet_35 (by decide) ?_
      refine G.goto (tgt := 40) C dX3_leastSet_36 (by decide) ?_
      exact G.sub [0, 1, 2, 3, 4, 5] rfl (gb_X3_leastSet_19_40 hE C hr hk_16  h)
def b_X3_leastSet_19_16 : Nat → Int64 → Int32 → Int64 → Int64 → Int32 → Mm → Option (Int64 × Mm)
  | 0, _, _, _, _, _, _ => none
  | n + 1, x1, x3, x4, x6, x8, M => bb_X3_leastSet_19_16 (b_X3_leastSet_19_16 n) x1 x3 x4 x6 x8 M
set_option maxHeartbeats 4000000 in
theorem g_X3_leastSet_19_16  {n : Nat} {x1 : Int64} {x3 : Int32} {x4 : Int64} {x6 : Int64} {x8 : Int32} {M : Mm} {v : Int64} {M' : Mm} (hE : Has shC (eH E)) (C : Cx RX3 cX3_leastSet 10 p (rmD 24) s m args meth c E) (hr : meth.sig.returnType = (some .long)) (h : b_X3_leastSet_19_16 n x1 x3 x4 x6 x8 M = some (v, M')) : G p l e (rmD 24) s m args below meth c E 10 0 0 (QR below args s E 0 0 (some (.long v)) M') 16 [(0, .ref (eA E 19)), (1, .long x1), (3, .int x3), (4, .long x4), (6, .long x6), (8, .int x8)] [] M := by
  induction n generalizing x1 x3 x4 x6 x8 M with
  | zero => cases h
  | succ n ih => exact gb_X3_leastSet_19_16 hE C hr (fun _ _ _ _ _ _ => ih)  h
def bb_X3_leastSet_19_0 (x1 : Int64) (M : Mm) : Option (Int64 × Mm) := bd2 (f_X3_fewest_19 x1 M) fun v_3 M_2 => b_X3_leastSet_19_16 FU x1 v_3 (0 : Int64) (0 : Int64) (31 : Int32) M_2
set_option maxHeartbeats 4000000 in
set_option maxRecDepth 100000 in
theorem gb_X3_leastSet_19_0  {x1 : Int64} {M : Mm} {v : Int64} {M' : Mm} (hE : Has shC (eH E)) (C : Cx RX3 cX3_leastSet 10 p (rmD 24) s m args meth c E) (hr : meth.sig.returnType = (some .long)) (h : bb_X3_leastSet_19_0 x1 M = some (v, M')) : G p l e (rmD 24) s m args below meth c E 10 0 0 (QR below args s E 0 0 (some (.long v)) M') 0 [(0, .ref (eA E 19)), (1, .long x1)] [] M := by
  unfold bb_X3_leastSet_19_0 at h
  refine G.aload_n C 0 dX3_leastSet_0 rfl rfl ?_
  refine G.lload_n C 1 dX3_leastSet_1 rfl rfl ?_
  obtain ⟨v_3, M_2, hv_1, h⟩ := bd2_ex h
  refine G.callV (rest := []) C (s_X3_fewest_19 hE  hv_1) ⟨tg_590, tg_93, ok_X3_fewest, Nat.le_of_ble_eq_true rfl, Nat.le_of_ble_eq_true rfl⟩ tg_1029 tg_588 tg_589 (sc_19 hE) rfl rfl (Nat.le_of_ble_eq_true rfl) dX3_leastSet_2 ⟨Nat.le_refl 0, Nat.le_refl 0⟩ ?_
  refine G.istore_n (L' := [(3, .int v_3), (0, .ref (eA E 19)), (1, .long x1)]) C dX3_leastSet_5 rfl rfl (by decide) rfl ?_
  refine G.lconst (v := (0 : Int64)) C dX3_leastSet_6 (by decide) ?_
  refine G.lstore (L' := [(4, .long (0 : Int64)), (3, .int v_3), (0, .ref (eA E 19)), (1, .long x1)]) C dX3_leastSet_7 rfl (by decide) rfl ?_
  refine G.lconst (v := (0 : Int64)) C dX3_leastSet_9 (by decide) ?_
  refine G.lstore (L' := [(6, .long (0 : Int64)), (4, .long (0 : Int64)), (3, .int v_3), (0, .ref (eA E 19)), (1, .long x1)]) C dX3_leastSet_10 rfl (by decide) rfl ?_
  refine G.bipush (v := (31 : Int32)) C dX3_leastSet_12 (by decide) ?_
  refine G.istore (L' := [(8, .int (31 : Int32)), (6, .long (0 : Int64)), (4, .long (0 : Int64)), (3, .int v_3), (0, .ref (eA E 19)), (1, .long x1)]) C dX3_leastSet_14 rfl (by decide) rfl ?_
  exact G.sub [4, 5, 3, 2, 1, 0] rfl (g_X3_leastSet_19_16 hE C hr  h)
def f_X3_leastSet_19 (x1 : Int64) (M : Mm) : Option (Int64 × Mm) := bb_X3_leastSet_19_0 x1 M
theorem s_X3_leastSet_19 {l : Launch} {E : Ev} {x1 : Int64} {M : Mm} {v : Int64} {M' : Mm} (hE : Has shC (eH E)) (h : f_X3_leastSet_19 x1 M = some (v, M')) : MetA l yX3_leastSet cX3_leastSet 10 (some .long) 24 E [.ref (eA E 19), .long x1] M (some (.long v)) M' := by
  refine MetA.of (by decide +kernel) (Nat.le_of_ble_eq_true rfl) ?_
  intro p e s m below meth c C hr hnm
  exact G.sub [0, 1] rfl (gb_X3_leastSet_19_0 hE C hr  h)
end
