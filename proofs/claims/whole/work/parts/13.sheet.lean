section
variable {p : Program} {l : Launch} {e : Env} {s : State} {m : MethodId} {args : Array Value} {below : List Frame} {meth : Method} {c : Code} {E : Ev}
def bb_J7_fill_d0a16_12_6 (k_6 : Int64 → Int32 → Int32 → Mm → Option Mm) (x1 : Int64) (x3 : Int32) (x4 : Int32) (M : Mm) : Option Mm := if x4 ≤ x3 then (some M) else (gd (inb x3 10) (ltv (wJ M 12 (ix x3) x1) fun M_2 => ltv (x3 + (1 : Int32)) fun x3_3 => k_6 x1 x3_3 x4 M_2))
set_option maxHeartbeats 4000000 in
set_option maxRecDepth 100000 in
theorem gb_J7_fill_d0a16_12_6  {k_6 : Int64 → Int32 → Int32 → Mm → Option Mm} {x1 : Int64} {x3 : Int32} {x4 : Int32} {M : Mm} {M' : Mm} (hE : Has shC (eH E)) (C : Cx RJ7 cJ7_fill_d0a16 5 p (rmD 1) s m args meth c E) (hr : meth.sig.returnType = none) (hk_6 : ∀ (x1 : Int64) (x3 : Int32) (x4 : Int32) (M : Mm), k_6 x1 x3 x4 M = some M' → G p l e (rmD 1) s m args below meth c E 5 0 0 (QR below args s E 0 0 none M') 6 [(0, .ref (eA E 12)), (1, .long x1), (3, .int x3), (4, .int x4)] [] M) (h : bb_J7_fill_d0a16_12_6 k_6 x1 x3 x4 M = some M') : G p l e (rmD 1) s m args below meth c E 5 0 0 (QR below args s E 0 0 none M') 6 [(0, .ref (eA E 12)), (1, .long x1), (3, .int x3), (4, .int x4)] [] M := by
  unfold bb_J7_fill_d0a16_12_6 at h
  refine G.iload_n C 2 dJ7_fill_d0a16_6 rfl rfl ?_
  refine G.iload C 3 dJ7_fill_d0a16_7 rfl ?_
  refine G.icmp_ge (tgt := 22) C dJ7_fill_d0a16_9 (by decide) (fun hc => ?_) (fun hc => ?_)
  · have h := it_t h hc
    cases h
    exact G.vret C hr dJ7_fill_d0a16_22
  · have h := it_f h hc
    refine G.aload_n C 0 dJ7_fill_d0a16_12 rfl rfl ?_
    refine G.iload_n C 2 dJ7_fill_d0a16_13 rfl rfl ?_
    refine G.lload_n C 1 dJ7_fill_d0a16_14 rfl rfl ?_
    obtain ⟨hg_1, h⟩ := gd_ex h
    obtain ⟨M_2, eM_2, h⟩ := ltv_ex h
    refine G.sJ (j := (ix x3)) C (sc_12 hE) hg_1 rfl dJ7_fill_d0a16_15 eM_2 ?_
    obtain ⟨x3_3, ex3_3, h⟩ := ltv_ex h
    refine G.iinc (L' := [(3, .int x3_3), (0, .ref (eA E 12)), (1, .long x1), (4, .int x4)]) C 2 dJ7_fill_d0a16_16 rfl (ex3_3.trans rfl) (by decide) rfl ?_
    refine G.goto (tgt := 6) C dJ7_fill_d0a16_19 (by decide) ?_
    exact G.sub [1, 2, 0, 3] rfl (hk_6 _ _ _ _  h)
def b_J7_fill_d0a16_12_6 : Nat → Int64 → Int32 → Int32 → Mm → Option Mm
  | 0, _, _, _, _ => none
  | n + 1, x1, x3, x4, M => bb_J7_fill_d0a16_12_6 (b_J7_fill_d0a16_12_6 n) x1 x3 x4 M
set_option maxHeartbeats 4000000 in
theorem g_J7_fill_d0a16_12_6  {n : Nat} {x1 : Int64} {x3 : Int32} {x4 : Int32} {M : Mm} {M' : Mm} (hE : Has shC (eH E)) (C : Cx RJ7 cJ7_fill_d0a16 5 p (rmD 1) s m args meth c E) (hr : meth.sig.returnType = none) (h : b_J7_fill_d0a16_12_6 n x1 x3 x4 M = some M') : G p l e (rmD 1) s m args below meth c E 5 0 0 (QR below args s E 0 0 none M') 6 [(0, .ref (eA E 12)), (1, .long x1), (3, .int x3), (4, .int x4)] [] M := by
  induction n generalizing x1 x3 x4 M with
  | zero => cases h
  | succ n ih => exact gb_J7_fill_d0a16_12_6 hE C hr (fun _ _ _ _ => ih)  h
def bb_J7_fill_d0a16_12_0 (x1 : Int64) (M : Mm) : Option Mm := b_J7_fill_d0a16_12_6 FU x1 (0 : Int32) (10 : Int32) M
set_option maxHeartbeats 4000000 in
set_option maxRecDepth 100000 in
theorem gb_J7_fill_d0a16_12_0  {x1 : Int64} {M : Mm} {M' : Mm} (hE : Has shC (eH E)) (C : Cx RJ7 cJ7_fill_d0a16 5 p (rmD 1) s m args meth c E) (hr : meth.sig.returnType = none) (h : bb_J7_fill_d0a16_12_0 x1 M = some M') : G p l e (rmD 1) s m args below meth c E 5 0 0 (QR below args s E 0 0 none M') 0 [(0, .ref (eA E 12)), (1, .long x1)] [] M := by
  unfold bb_J7_fill_d0a16_12_0 at h
  refine G.iconst (v := (0 : Int32)) C dJ7_fill_d0a16_0 (by decide) ?_
  refine G.istore_n (L' := [(3, .int (0 : Int32)), (0, .ref (eA E 12)), (1, .long x1)]) C dJ7_fill_d0a16_1 rfl rfl (by decide) rfl ?_
  refine G.aload_n C 1 dJ7_fill_d0a16_2 rfl rfl ?_
  refine G.alen (v := (10 : Int32)) C (sc_12 hE) rfl (by decide) dJ7_fill_d0a16_3 ?_
  refine G.istore (L' := [(4, .int (10 : Int32)), (3, .int (0 : Int32)), (0, .ref (eA E 12)), (1, .long x1)]) C dJ7_fill_d0a16_4 rfl (by decide) rfl ?_
  exact G.sub [2, 3, 1, 0] rfl (g_J7_fill_d0a16_12_6 hE C hr  h)
def f_J7_fill_d0a16_12 (x1 : Int64) (M : Mm) : Option Mm := bb_J7_fill_d0a16_12_0 x1 M
theorem s_J7_fill_d0a16_12 {l : Launch} {E : Ev} {x1 : Int64} {M : Mm} {M' : Mm} (hE : Has shC (eH E)) (h : f_J7_fill_d0a16_12 x1 M = some M') : MetA l yJ7_fill_d0a16 cJ7_fill_d0a16 5 none 1 E [.ref (eA E 12), .long x1] M none M' := by
  refine MetA.of (by decide +kernel) (Nat.le_of_ble_eq_true rfl) ?_
  intro p e s m below meth c C hr hnm
  exact G.sub [0, 1] rfl (gb_J7_fill_d0a16_12_0 hE C hr  h)
def bb_J7_fill_d0a16_13_6 (k_6 : Int64 → Int32 → Int32 → Mm → Option Mm) (x1 : Int64) (x3 : Int32) (x4 : Int32) (M : Mm) : Option Mm := if x4 ≤ x3 then (some M) else (gd (inb x3 10) (ltv (wJ M 13 (ix x3) x1) fun M_2 => ltv (x3 + (1 : Int32)) fun x3_3 => k_6 x1 x3_3 x4 M_2))
set_option maxHeartbeats 4000000 in
set_option maxRecDepth 100000 in
theorem gb_J7_fill_d0a16_13_6  {k_6 : Int64 → Int32 → Int32 → Mm → Option Mm} {x1 : Int64} {x3 : Int32} {x4 : Int32} {M : Mm} {M' : Mm} (hE : Has shC (eH E)) (C : Cx RJ7 cJ7_fill_d0a16 5 p (rmD 1) s m args meth c E) (hr : meth.sig.returnType = none) (hk_6 : ∀ (x1 : Int64) (x3 : Int32) (x4 : Int32) (M : Mm), k_6 x1 x3 x4 M = some M' → G p l e (rmD 1) s m args below meth c E 5 0 0 (QR below args s E 0 0 none M') 6 [(0, .ref (eA E 13)), (1, .long x1), (3, .int x3), (4, .int x4)] [] M) (h : bb_J7_fill_d0a16_13_6 k_6 x1 x3 x4 M = some M') : G p l e (rmD 1) s m args below meth c E 5 0 0 (QR below args s E 0 0 none M') 6 [(0, .ref (eA E 13)), (1, .long x1), (3, .int x3), (4, .int x4)] [] M := by
  unfold bb_J7_fill_d0a16_13_6 at h
  refine G.iload_n C 2 dJ7_fill_d0a16_6 rfl rfl ?_
  refine G.iload C 3 dJ7_fill_d0a16_7 rfl ?_
  refine G.icmp_ge (tgt := 22) C dJ7_fill_d0a16_9 (by decide) (fun hc => ?_) (fun hc => ?_)
  · have h := it_t h hc
    cases h
    exact G.vret C hr dJ7_fill_d0a16_22
  · have h := it_f h hc
    refine G.aload_n C 0 dJ7_fill_d0a16_12 rfl rfl ?_
    refine G.iload_n C 2 dJ7_fill_d0a16_13 rfl rfl ?_
    refine G.lload_n C 1 dJ7_fill_d0a16_14 rfl rfl ?_
    obtain ⟨hg_1, h⟩ := gd_ex h
    obtain ⟨M_2, eM_2, h⟩ := ltv_ex h
    refine G.sJ (j := (ix x3)) C (sc_13 hE) hg_1 rfl dJ7_fill_d0a16_15 eM_2 ?_
    obtain ⟨x3_3, ex3_3, h⟩ := ltv_ex h
    refine G.iinc (L' := [(3, .int x3_3), (0, .ref (eA E 13)), (1, .long x1), (4, .int x4)]) C 2 dJ7_fill_d0a16_16 rfl (ex3_3.trans rfl) (by decide) rfl ?_
    refine G.goto (tgt := 6) C dJ7_fill_d0a16_19 (by decide) ?_
    exact G.sub [1, 2, 0, 3] rfl (hk_6 _ _ _ _  h)
def b_J7_fill_d0a16_13_6 : Nat → Int64 → Int32 → Int32 → Mm → Option Mm
  | 0, _, _, _, _ => none
  | n + 1, x1, x3, x4, M => bb_J7_fill_d0a16_13_6 (b_J7_fill_d0a16_13_6 n) x1 x3 x4 M
set_option maxHeartbeats 4000000 in
theorem g_J7_fill_d0a16_13_6  {n : Nat} {x1 : Int64} {x3 : Int32} {x4 : Int32} {M : Mm} {M' : Mm} (hE : Has shC (eH E)) (C : Cx RJ7 cJ7_fill_d0a16 5 p (rmD 1) s m args meth c E) (hr : meth.sig.returnType = none) (h : b_J7_fill_d0a16_13_6 n x1 x3 x4 M = some M') : G p l e (rmD 1) s m args below meth c E 5 0 0 (QR below args s E 0 0 none M') 6 [(0, .ref (eA E 13)), (1, .long x1), (3, .int x3), (4, .int x4)] [] M := by
  induction n generalizing x1 x3 x4 M with
  | zero => cases h
  | succ n ih => exact gb_J7_fill_d0a16_13_6 hE C hr (fun _ _ _ _ => ih)  h
def bb_J7_fill_d0a16_13_0 (x1 : Int64) (M : Mm) : Option Mm := b_J7_fill_d0a16_13_6 FU x1 (0 : Int32) (10 : Int32) M
set_option maxHeartbeats 4000000 in
set_option maxRecDepth 100000 in
theorem gb_J7_fill_d0a16_13_0  {x1 : Int64} {M : Mm} {M' : Mm} (hE : Has shC (eH E)) (C : Cx RJ7 cJ7_fill_d0a16 5 p (rmD 1) s m args meth c E) (hr : meth.sig.returnType = none) (h : bb_J7_fill_d0a16_13_0 x1 M = some M') : G p l e (rmD 1) s m args below meth c E 5 0 0 (QR below args s E 0 0 none M') 0 [(0, .ref (eA E 13)), (1, .long x1)] [] M := by
  unfold bb_J7_fill_d0a16_13_0 at h
  refine G.iconst (v := (0 : Int32)) C dJ7_fill_d0a16_0 (by decide) ?_
  refine G.istore_n (L' := [(3, .int (0 : Int32)), (0, .ref (eA E 13)), (1, .long x1)]) C dJ7_fill_d0a16_1 rfl rfl (by decide) rfl ?_
  refine G.aload_n C 1 dJ7_fill_d0a16_2 rfl rfl ?_
  refine G.alen (v := (10 : Int32)) C (sc_13 hE) rfl (by decide) dJ7_fill_d0a16_3 ?_
  refine G.istore (L' := [(4, .int (10 : Int32)), (3, .int (0 : Int32)), (0, .ref (eA E 13)), (1, .long x1)]) C dJ7_fill_d0a16_4 rfl (by decide) rfl ?_
  exact G.sub [2, 3, 1, 0] rfl (g_J7_fill_d0a16_13_6 hE C hr  h)
def f_J7_fill_d0a16_13 (x1 : Int64) (M : Mm) : Option Mm := bb_J7_fill_d0a16_13_0 x1 M
theorem s_J7_fill_d0a16_13 {l : Launch} {E : Ev} {x1 : Int64} {M : Mm} {M' : Mm} (hE : Has shC (eH E)) (h : f_J7_fill_d0a16_13 x1 M = some M') : MetA l yJ7_fill_d0a16 cJ7_fill_d0a16 5 none 1 E [.ref (eA E 13), .long x1] M none M' := by
  refine MetA.of (by decide +kernel) (Nat.le_of_ble_eq_true rfl) ?_
  intro p e s m below meth c C hr hnm
  exact G.sub [0, 1] rfl (gb_J7_fill_d0a16_13_0 hE C hr  h)
def bb_J7_fill_53178_15_5 (k_5 : Int32 → Int32 → Int32 → Mm → Option Mm) (x1 : Int32) (x2 : Int32) (x3 : Int32) (M : Mm) : Option Mm := if x3 ≤ x2 then (some M) else (gd (inb x2 6) (ltv (wI M 15 (ix x2) x1) fun M_2 => ltv (x2 + (1 : Int32)) fun x2_3 => k_5 x1 x2_3 x3 M_2))
set_option maxHeartbeats 4000000 in
set_option maxRecDepth 100000 in
theorem gb_J7_fill_53178_15_5  {k_5 : Int32 → Int32 → Int32 → Mm → Option Mm} {x1 : Int32} {x2 : Int32} {x3 : Int32} {M : Mm} {M' : Mm} (hE : Has shC (eH E)) (C : Cx RJ7 cJ7_fill_53178 4 p (rmD 1) s m args meth c E) (hr : meth.sig.returnType = none) (hk_5 : ∀ (x1 : Int32) (x2 : Int32) (x3 : Int32) (M : Mm), k_5 x1 x2 x3 M = some M' → G p l e (rmD 1) s m args below meth c E 4 0 0 (QR below args s E 0 0 none M') 5 [(0, .ref (eA E 15)), (1, .int x1), (2, .int x2), (3, .int x3)] [] M) (h : bb_J7_fill_53178_15_5 k_5 x1 x2 x3 M = some M') : G p l e (rmD 1) s m args below meth c E 4 0 0 (QR below args s E 0 0 none M') 5 [(0, .ref (eA E 15)), (1, .int x1), (2, .int x2), (3, .int x3)] [] M := by
  unfold bb_J7_fill_53178_15_5 at h
  refine G.iload_n C 2 dJ7_fill_53178_5 rfl rfl ?_
  refine G.iload_n C 3 dJ7_fill_53178_6 rfl rfl ?_
  refine G.icmp_ge (tgt := 20) C dJ7_fill_53178_7 (by decide) (fun hc => ?_) (fun hc => ?_)
  · have h := it_t h hc
    cases h
    exact G.vret C hr dJ7_fill_53178_20
  · have h := it_f h hc
    refine G.aload_n C 0 dJ7_fill_53178_10 rfl rfl ?_
    refine G.iload_n C 2 dJ7_fill_53178_11 rfl rfl ?_
    refine G.iload_n C 1 dJ7_fill_53178_12 rfl rfl ?_
    obtain ⟨hg_1, h⟩ := gd_ex h
    obtain ⟨M_2, eM_2, h⟩ := ltv_ex h
    refine G.sI (j := (ix x2)) C (sc_15 hE) hg_1 rfl dJ7_fill_53178_13 eM_2 ?_
    obtain ⟨x2_3, ex2_3, h⟩ := ltv_ex h
    refine G.iinc (L' := [(2, .int x2_3), (0, .ref (eA E 15)), (1, .int x1), (3, .int x3)]) C 2 dJ7_fill_53178_14 rfl (ex2_3.trans rfl) (by decide) rfl ?_
    refine G.goto (tgt := 5) C dJ7_fill_53178_17 (by decide) ?_
    exact G.sub [1, 2, 0, 3] rfl (hk_5 _ _ _ _  h)
def b_J7_fill_53178_15_5 : Nat → Int32 → Int32 → Int32 → Mm → Option Mm
  | 0, _, _, _, _ => none
  | n + 1, x1, x2, x3, M => bb_J7_fill_53178_15_5 (b_J7_fill_53178_15_5 n) x1 x2 x3 M
set_option maxHeartbeats 4000000 in
theorem g_J7_fill_53178_15_5  {n : Nat} {x1 : Int32} {x2 : Int32} {x3 : Int32} {M : Mm} {M' : Mm} (hE : Has shC (eH E)) (C : Cx RJ7 cJ7_fill_53178 4 p (rmD 1) s m args meth c E) (hr : meth.sig.returnType = none) (h : b_J7_fill_53178_15_5 n x1 x2 x3 M = some M') : G p l e (rmD 1) s m args below meth c E 4 0 0 (QR below args s E 0 0 none M') 5 [(0, .ref (eA E 15)), (1, .int x1), (2, .int x2), (3, .int x3)] [] M := by
  induction n generalizing x1 x2 x3 M with
  | zero => cases h
  | succ n ih => exact gb_J7_fill_53178_15_5 hE C hr (fun _ _ _ _ => ih)  h
def bb_J7_fill_53178_15_0 (x1 : Int32) (M : Mm) : Option Mm := b_J7_fill_53178_15_5 FU x1 (0 : Int32) (6 : Int32) M
set_option maxHeartbeats 4000000 in
set_option maxRecDepth 100000 in
theorem gb_J7_fill_53178_15_0  {x1 : Int32} {M : Mm} {M' : Mm} (hE : Has shC (eH E)) (C : Cx RJ7 cJ7_fill_53178 4 p (rmD 1) s m args meth c E) (hr : meth.sig.returnType = none) (h : bb_J7_fill_53178_15_0 x1 M = some M') : G p l e (rmD 1) s m args below meth c E 4 0 0 (QR below args s E 0 0 none M') 0 [(0, .ref (eA E 15)), (1, .int x1)] [] M := by
  unfold bb_J7_fill_53178_15_0 at h
  refine G.iconst (v := (0 : Int32)) C dJ7_fill_53178_0 (by decide) ?_
  refine G.istore_n (L' := [(2, .int (0 : Int32)), (0, .ref (eA E 15)), (1, .int x1)]) C dJ7_fill_53178_1 rfl rfl (by decide) rfl ?_
  refine G.aload_n C 1 dJ7_fill_53178_2 rfl rfl ?_
  refine G.alen (v := (6 : Int32)) C (sc_15 hE) rfl (by decide) dJ7_fill_53178_3 ?_
  refine G.istore_n (L' := [(3, .int (6 : Int32)), (2, .int (0 : Int32)), (0, .ref (eA E 15)), (1, .int x1)]) C dJ7_fill_53178_4 rfl rfl (by decide) rfl ?_
  exact G.sub [2, 3, 1, 0] rfl (g_J7_fill_53178_15_5 hE C hr  h)
def f_J7_fill_53178_15 (x1 : Int32) (M : Mm) : Option Mm := bb_J7_fill_53178_15_0 x1 M
theorem s_J7_fill_53178_15 {l : Launch} {E : Ev} {x1 : Int32} {M : Mm} {M' : Mm} (hE : Has shC (eH E)) (h : f_J7_fill_53178_15 x1 M = some M') : MetA l yJ7_fill_53178 cJ7_fill_53178 4 none 1 E [.ref (eA E 15), .int x1] M none M' := by
  refine MetA.of (by decide +kernel) (Nat.le_of_ble_eq_true rfl) ?_
  intro p e s m below meth c C hr hnm
  exact G.sub [0, 1] rfl (gb_J7_fill_53178_15_0 hE C hr  h)
def bb_J7_fill_53178_16_5 (k_5 : Int32 → Int32 → Int32 → Mm → Option Mm) (x1 : Int32) (x2 : Int32) (x3 : Int32) (M : Mm) : Option Mm := if x3 ≤ x2 then (some M) else (gd (inb x2 10) (ltv (wI M 16 (ix x2) x1) fun M_2 => ltv (x2 + (1 : Int32)) fun x2_3 => k_5 x1 x2_3 x3 M_2))
set_option maxHeartbeats 4000000 in
set_option maxRecDepth 100000 in
theorem gb_J7_fill_53178_16_5  {k_5 : Int32 → Int32 → Int32 → Mm → Option Mm} {x1 : Int32} {x2 : Int32} {x3 : Int32} {M : Mm} {M' : Mm} (hE : Has shC (eH E)) (C : Cx RJ7 cJ7_fill_53178 4 p (rmD 1) s m args meth c E) (hr : meth.sig.returnType = none) (hk_5 : ∀ (x1 : Int32) (x2 : Int32) (x3 : Int32) (M : Mm), k_5 x1 x2 x3 M = some M' → G p l e (rmD 1) s m args below meth c E 4 0 0 (QR below args s E 0 0 none M') 5 [(0, .ref (eA E 16)), (1, .int x1), (2, .int x2), (3, .int x3)] [] M) (h : bb_J7_fill_53178_16_5 k_5 x1 x2 x3 M = some M') : G p l e (rmD 1) s m args below meth c E 4 0 0 (QR below args s E 0 0 none M') 5 [(0, .ref (eA E 16)), (1, .int x1), (2, .int x2), (3, .int x3)] [] M := by
  unfold bb_J7_fill_53178_16_5 at h
  refine G.iload_n C 2 dJ7_fill_53178_5 rfl rfl ?_
  refine G.iload_n C 3 dJ7_fill_53178_6 rfl rfl ?_
  refine G.icmp_ge (tgt := 20) C dJ7_fill_53178_7 (by decide) (fun hc => ?_) (fun hc => ?_)
  · have h := it_t h hc
    cases h
    exact G.vret C hr dJ7_fill_53178_20
  · have h := it_f h hc
    refine G.aload_n C 0 dJ7_fill_53178_10 rfl rfl ?_
    refine G.iload_n C 2 dJ7_fill_53178_11 rfl rfl ?_
    refine G.iload_n C 1 dJ7_fill_53178_12 rfl rfl ?_
    obtain ⟨hg_1, h⟩ := gd_ex h
    obtain ⟨M_2, eM_2, h⟩ := ltv_ex h
    refine G.sI (j := (ix x2)) C (sc_16 hE) hg_1 rfl dJ7_fill_53178_13 eM_2 ?_
    obtain ⟨x2_3, ex2_3, h⟩ := ltv_ex h
    refine G.iinc (L' := [(2, .int x2_3), (0, .ref (eA E 16)), (1, .int x1), (3, .int x3)]) C 2 dJ7_fill_53178_14 rfl (ex2_3.trans rfl) (by decide) rfl ?_
    refine G.goto (tgt := 5) C dJ7_fill_53178_17 (by decide) ?_
    exact G.sub [1, 2, 0, 3] rfl (hk_5 _ _ _ _  h)
def b_J7_fill_53178_16_5 : Nat → Int32 → Int32 → Int32 → Mm → Option Mm
  | 0, _, _, _, _ => none
  | n + 1, x1, x2, x3, M => bb_J7_fill_53178_16_5 (b_J7_fill_53178_16_5 n) x1 x2 x3 M
set_option maxHeartbeats 4000000 in
theorem g_J7_fill_53178_16_5  {n : Nat} {x1 : Int32} {x2 : Int32} {x3 : Int32} {M : Mm} {M' : Mm} (hE : Has shC (eH E)) (C : Cx RJ7 cJ7_fill_53178 4 p (rmD 1) s m args meth c E) (hr : meth.sig.returnType = none) (h : b_J7_fill_53178_16_5 n x1 x2 x3 M = some M') : G p l e (rmD 1) s m args below meth c E 4 0 0 (QR below args s E 0 0 none M') 5 [(0, .ref (eA E 16)), (1, .int x1), (2, .int x2), (3, .int x3)] [] M := by
  induction n generalizing x1 x2 x3 M with
  | zero => cases h
  | succ n ih => exact gb_J7_fill_53178_16_5 hE C hr (fun _ _ _ _ => ih)  h
def bb_J7_fill_53178_16_0 (x1 : Int32) (M : Mm) : Option Mm := b_J7_fill_53178_16_5 FU x1 (0 : Int32) (10 : Int32) M
set_option maxHeartbeats 4000000 in
set_option maxRecDepth 100000 in
theorem gb_J7_fill_53178_16_0  {x1 : Int32} {M : Mm} {M' : Mm} (hE : Has shC (eH E)) (C : Cx RJ7 cJ7_fill_53178 4 p (rmD 1) s m args meth c E) (hr : meth.sig.returnType = none) (h : bb_J7_fill_53178_16_0 x1 M = some M') : G p l e (rmD 1) s m args below meth c E 4 0 0 (QR below args s E 0 0 none M') 0 [(0, .ref (eA E 16)), (1, .int x1)] [] M := by
  unfold bb_J7_fill_53178_16_0 at h
  refine G.iconst (v := (0 : Int32)) C dJ7_fill_53178_0 (by decide) ?_
  refine G.istore_n (L' := [(2, .int (0 : Int32)), (0, .ref (eA E 16)), (1, .int x1)]) C dJ7_fill_53178_1 rfl rfl (by decide) rfl ?_
  refine G.aload_n C 1 dJ7_fill_53178_2 rfl rfl ?_
  refine G.alen (v := (10 : Int32)) C (sc_16 hE) rfl (by decide) dJ7_fill_53178_3 ?_
  refine G.istore_n (L' := [(3, .int (10 : Int32)), (2, .int (0 : Int32)), (0, .ref (eA E 16)), (1, .int x1)]) C dJ7_fill_53178_4 rfl rfl (by decide) rfl ?_
  exact G.sub [2, 3, 1, 0] rfl (g_J7_fill_53178_16_5 hE C hr  h)
def f_J7_fill_53178_16 (x1 : Int32) (M : Mm) : Option Mm := bb_J7_fill_53178_16_0 x1 M
theorem s_J7_fill_53178_16 {l : Launch} {E : Ev} {x1 : Int32} {M : Mm} {M' : Mm} (hE : Has shC (eH E)) (h : f_J7_fill_53178_16 x1 M = some M') : MetA l yJ7_fill_53178 cJ7_fill_53178 4 none 1 E [.ref (eA E 16), .int x1] M none M' := by
  refine MetA.of (by decide +kernel) (Nat.le_of_ble_eq_true rfl) ?_
  intro p e s m below meth c C hr hnm
  exact G.sub [0, 1] rfl (gb_J7_fill_53178_16_0 hE C hr  h)
def bb_X7_wipe_11_0  (M : Mm) : Option Mm := ltv (wI M 11 7 (0 : Int32)) fun M_1 => ltv (wI M_1 11 8 (0 : Int32)) fun M_2 => ltv (wI M_2 11 9 (0 : Int32)) fun M_3 => bd (f_J7_fill_d0a16_12 (0 : Int64) M_3) fun M_5 => bd (f_J7_fill_d0a16_13 (-1 : Int64) M_5) fun M_7 => bd (f_J7_fill_53178_15 (0 : Int32) M_7) fun M_9 => bd (f_J7_fill_53178_16 (4 : Int32) M_9) fun M_11 => some M_11
set_option maxHeartbeats 4000000 in
set_option maxRecDepth 100000 in
theorem gb_X7_wipe_11_0   {M : Mm} {M' : Mm} (hE : Has shC (eH E)) (C : Cx RX7 cX7_wipe 1 p (rmD 2) s m args meth c E) (hr : meth.sig.returnType = none) (h : bb_X7_wipe_11_0 M = some M') : G p l e (rmD 2) s m args below meth c E 1 0 0 (QR below args s E 0 0 none M') 0 [(0, .ref (eA E 11))] [] M := by
  unfold bb_X7_wipe_11_0 at h
  refine G.aload_n C 0 dX7_wipe_0 rfl rfl ?_
  refine G.iconst (v := (0 : Int32)) C dX7_wipe_1 (by decide) ?_
  obtain ⟨M_1, eM_1, h⟩ := ltv_ex h
  refine G.putI (k := 7) C k_X7 (sc_11 hE) rfl (by decide) tg_157 rfl rfl dX7_wipe_2 eM_1 ?_
  refine G.aload_n C 0 dX7_wipe_5 rfl rfl ?_
  refine G.iconst (v := (0 : Int32)) C dX7_wipe_6 (by decide) ?_
  obtain ⟨M_2, eM_2, h⟩ := ltv_ex h
  refine G.putI (k := 8) C k_X7 (sc_11 hE) rfl (by decide) tg_162 rfl rfl dX7_wipe_7 eM_2 ?_
  refine G.aload_n C 0 dX7_wipe_10 rfl rfl ?_
  refine G.iconst (v := (0 : Int32)) C dX7_wipe_11 (by decide) ?_
  obtain ⟨M_3, eM_3, h⟩ := ltv_ex h
  refine G.putI (k := 9) C k_X7 (sc_11 hE) rfl (by decide) tg_167 rfl rfl dX7_wipe_12 eM_3 ?_
  refine G.aload_n C 0 dX7_wipe_15 rfl rfl ?_
  refine G.getR (k := 0) C k_X7 (sc_11 hE) rfl (by decide) tg_136 dX7_wipe_16 ?_
  refine G.lconst (v := (0 : Int64)) C dX7_wipe_19 (by decide) ?_
  obtain ⟨M_5, hv_4, h⟩ := bd_ex h
  refine G.callS (rest := []) C (s_J7_fill_d0a16_12 hE  hv_4) ⟨tg_407, tg_99, ok_J7_fill_d0a16, Nat.le_of_ble_eq_true rfl, Nat.le_of_ble_eq_true rfl⟩ tg_405 tg_406 rfl (Nat.le_of_ble_eq_true rfl) dX7_wipe_20 ⟨Nat.le_refl 0, Nat.le_refl 0⟩ ?_
  refine G.aload_n C 0 dX7_wipe_23 rfl rfl ?_
  refine G.getR (k := 1) C k_X7 (sc_11 hE) rfl (by decide) tg_138 dX7_wipe_24 ?_
  refine G.ldc2 C tg_408 dX7_wipe_27 ?_
  obtain ⟨M_7, hv_6, h⟩ := bd_ex h
  refine G.callS (rest := []) C (s_J7_fill_d0a16_13 hE  hv_6) ⟨tg_407, tg_99, ok_J7_fill_d0a16, Nat.le_of_ble_eq_true rfl, Nat.le_of_ble_eq_true rfl⟩ tg_405 tg_406 rfl (Nat.le_of_ble_eq_true rfl) dX7_wipe_30 ⟨Nat.le_refl 0, Nat.le_refl 0⟩ ?_
  refine G.aload_n C 0 dX7_wipe_33 rfl rfl ?_
  refine G.getR (k := 3) C k_X7 (sc_11 hE) rfl (by decide) tg_142 dX7_wipe_34 ?_
  refine G.iconst (v := (0 : Int32)) C dX7_wipe_37 (by decide) ?_
  obtain ⟨M_9, hv_8, h⟩ := bd_ex h
  refine G.callS (rest := []) C (s_J7_fill_53178_15 hE  hv_8) ⟨tg_411, tg_99, ok_J7_fill_53178, Nat.le_of_ble_eq_true rfl, Nat.le_of_ble_eq_true rfl⟩ tg_409 tg_410 rfl (Nat.le_of_ble_eq_true rfl) dX7_wipe_38 ⟨Nat.le_refl 0, Nat.le_refl 0⟩ ?_
  refine G.aload_n C 0 dX7_wipe_41 rfl rfl ?_
  refine G.getR (k := 4) C k_X7 (sc_11 hE) rfl (by decide) tg_145 dX7_wipe_42 ?_
  refine G.iconst (v := (4 : Int32)) C dX7_wipe_45 (by decide) ?_
  obtain ⟨M_11, hv_10, h⟩ := bd_ex h
  refine G.callS (rest := []) C (s_J7_fill_53178_16 hE  hv_10) ⟨tg_411, tg_99, ok_J7_fill_53178, Nat.le_of_ble_eq_true rfl, Nat.le_of_ble_eq_true rfl⟩ tg_409 tg_410 rfl (Nat.le_of_ble_eq_true rfl) dX7_wipe_46 ⟨Nat.le_refl 0, Nat.le_refl 0⟩ ?_
  cases h
  exact G.vret C hr dX7_wipe_49
def f_X7_wipe_11  (M : Mm) : Option Mm := bb_X7_wipe_11_0 M
theorem s_X7_wipe_11 {l : Launch} {E : Ev}  {M : Mm} {M' : Mm} (hE : Has shC (eH E)) (h : f_X7_wipe_11 M = some M') : MetA l yX7_wipe cX7_wipe 1 none 2 E [.ref (eA E 11)] M none M' := by
  refine MetA.of (by decide +kernel) (Nat.le_of_ble_eq_true rfl) ?_
  intro p e s m below meth c C hr hnm
  exact G.sub [0] rfl (gb_X7_wipe_11_0 hE C hr  h)
def bb_X7_grown_6 (k_6 : Int64 → Int64 → Int32 → Option Int64) (x2 : Int64) (x4 : Int64) (x6 : Int32) : Option Int64 := if (64 : Int32) ≤ x6 then (some x4) else (bd (f_X4_beside x4) fun v_2 => ltv (x4 ||| (v_2 &&& x2)) fun x7_3 => if x7_3 = x4 then (some x4) else (ltv (x6 + (1 : Int32)) fun x6_4 => k_6 x2 x7_3 x6_4))
set_option maxHeartbeats 4000000 in
set_option maxRecDepth 100000 in
theorem gb_X7_grown_6 {M : Mm}  {k_6 : Int64 → Int64 → Int32 → Option Int64} {x2 : Int64} {x4 : Int64} {x6 : Int32} {v : Int64} (C : Cx RX7 cX7_grown 9 p (rmD 3) s m args meth c E) (hr : meth.sig.returnType = (some .long)) (hk_6 : ∀ (x2 : Int64) (x4 : Int64) (x6 : Int32), k_6 x2 x4 x6 = some v → G p l e (rmD 3) s m args below meth c E 9 0 0 (QR below args s E 0 0 (some (.long v)) M) 6 [(2, .long x2), (4, .long x4), (6, .int x6)] [] M) (h : bb_X7_grown_6 k_6 x2 x4 x6 = some v) : G p l e (rmD 3) s m args below meth c E 9 0 0 (QR below args s E 0 0 (some (.long v)) M) 6 [(2, .long x2), (4, .long x4), (6, .int x6)] [] M := by
  unfold bb_X7_grown_6 at h
  refine G.iload C 2 dX7_grown_6 rfl ?_
  refine G.bipush (v := (64 : Int32)) C dX7_grown_8 (by decide) ?_
  refine G.icmp_ge (tgt := 46) C dX7_grown_10 (by decide) (fun hc => ?_) (fun hc => ?_)
  · have h := it_t h hc
    refine G.lload C 1 dX7_grown_46 rfl ?_
    cases h
    exact G.lret C hr dX7_grown_48
  · have h := it_f h hc
    refine G.lload C 1 dX7_grown_13 rfl ?_
    refine G.lload C 1 dX7_grown_15 rfl ?_
    obtain ⟨v_2, hv_1, h⟩ := bd_ex h
    refine G.callS (rest := [.long x4]) C (s_X4_beside  hv_1) ⟨tg_463, tg_101, ok_X4_beside, Nat.le_of_ble_eq_true rfl, Nat.le_of_ble_eq_true rfl⟩ tg_875 tg_462 rfl (Nat.le_of_ble_eq_true rfl) dX7_grown_17 ⟨Nat.le_refl 0, Nat.le_refl 0⟩ ?_
    refine G.lload_n C 0 dX7_grown_20 rfl rfl ?_
    refine G.land C dX7_grown_21 ?_
    refine G.lor C dX7_grown_22 ?_
    obtain ⟨x7_3, ex7_3, h⟩ := ltv_ex h
    refine G.lstore (L' := [(7, .long x7_3), (2, .long x2), (4, .long x4), (6, .int x6)]) C dX7_grown_23 ex7_3 (by decide) rfl ?_
    refine G.lload C 0 dX7_grown_25 rfl ?_
    refine G.lload C 2 dX7_grown_27 rfl ?_
    refine G.lcmp C dX7_grown_29 (G.if_ne (tgt := 36) C dX7_grown_30 (by decide) (fun hc => ?_) (fun hc => ?_))
    · have h := it_f h (lgc_ne.mp hc)
      refine G.lload C 0 dX7_grown_36 rfl ?_
      refine G.lstore (L' := [(4, .long x7_3), (7, .long x7_3), (2, .long x2), (6, .int x6)]) C dX7_grown_38 rfl (by decide) rfl ?_
      obtain ⟨x6_4, ex6_4, h⟩ := ltv_ex h
      refine G.iinc (L' := [(6, .int x6_4), (4, .long x7_3), (7, .long x7_3), (2, .long x2)]) C 3 dX7_grown_40 rfl (ex6_4.trans rfl) (by decide) rfl ?_
      refine G.goto (tgt := 6) C dX7_grown_43 (by decide) ?_
      exact G.sub [3, 1, 0] rfl (hk_6 _ _ _  h)
    · have h := it_t h (lgc_eq.mp hc)
      refine G.goto (tgt := 46) C dX7_grown_33 (by decide) ?_
      refine G.lload C 2 dX7_grown_46 rfl ?_
      cases h
      exact G.lret C hr dX7_grown_48
def b_X7_grown_6 : Nat → Int64 → Int64 → Int32 → Option Int64
  | 0, _, _, _ => none
  | n + 1, x2, x4, x6 => bb_X7_grown_6 (b_X7_grown_6 n) x2 x4 x6
set_option maxHeartbeats 4000000 in
theorem g_X7_grown_6 {M : Mm}  {n : Nat} {x2 : Int64} {x4 : Int64} {x6 : Int32} {v : Int64} (C : Cx RX7 cX7_grown 9 p (rmD 3) s m args meth c E) (hr : meth.sig.returnType = (some .long)) (h : b_X7_grown_6 n x2 x4 x6 = some v) : G p l e (rmD 3) s m args below meth c E 9 0 0 (QR below args s E 0 0 (some (.long v)) M) 6 [(2, .long x2), (4, .long x4), (6, .int x6)] [] M := by
  induction n generalizing x2 x4 x6 with
  | zero => cases h
  | succ n ih => exact gb_X7_grown_6 C hr (fun _ _ _ => ih)  h
def bb_X7_grown_0 (x0 : Int64) (x2 : Int64) : Option Int64 := b_X7_grown_6 FU x2 x0 (0 : Int32)
set_option maxHeartbeats 4000000 in
set_option maxRecDepth 100000 in
theorem gb_X7_grown_0 {M : Mm}  {x0 : Int64} {x2 : Int64} {v : Int64} (C : Cx RX7 cX7_grown 9 p (rmD 3) s m args meth c E) (hr : meth.sig.returnType = (some .long)) (h : bb_X7_grown_0 x0 x2 = some v) : G p l e (rmD 3) s m args below meth c E 9 0 0 (QR below args s E 0 0 (some (.long v)) M) 0 [(0, .long x0), (2, .long x2)] [] M := by
  unfold bb_X7_grown_0 at h
  refine G.lload_n C 0 dX7_grown_0 rfl rfl ?_
  refine G.lstore (L' := [(4, .long x0), (0, .long x0), (2, .long x2)]) C dX7_grown_1 rfl (by decide) rfl ?_
  refine G.iconst (v := (0 : Int32)) C dX7_grown_3 (by decide) ?_
  refine G.istore (L' := [(6, .int (0 : Int32)), (4, .long x0), (0, .long x0), (2, .long x2)]) C dX7_grown_4 rfl (by decide) rfl ?_
  exact G.sub [3, 1, 0] rfl (g_X7_grown_6 C hr  h)
def f_X7_grown (x0 : Int64) (x2 : Int64) : Option Int64 := bb_X7_grown_0 x0 x2
theorem s_X7_grown {l : Launch} {E : Ev} {x0 : Int64} {x2 : Int64} {M : Mm} {v : Int64} (h : f_X7_grown x0 x2 = some v) : MetA l yX7_grown cX7_grown 9 (some .long) 3 E [.long x0, .long x2] M (some (.long v)) M := by
  refine MetA.of (by decide +kernel) (Nat.le_of_ble_eq_true rfl) ?_
  intro p e s m below meth c C hr hnm
  exact G.sub [0, 1] rfl (gb_X7_grown_0 C hr  h)
def bb_X7_findHollows_11_28 (k_7 : Int32 → Mm → Option Mm) (k_28 : Int32 → Int64 → Int32 → Mm → Option Mm) (x1 : Int32) (x2 : Int64) (x4 : Int32) (M : Mm) : Option Mm := if (64 : Int32) ≤ x4 then (ltv (x1 + (1 : Int32)) fun x1_5 => k_7 x1_5 M) else (if x2 = (0 : Int64) then (ltv (x1 + (1 : Int32)) fun x1_6 => k_7 x1_6 M) else (if (16 : Int32) ≤ (M.1 11 9) then (ltv (x1 + (1 : Int32)) fun x1_7 => k_7 x1_7 M) else (bd (f_X7_grown (x2 &&& (-x2)) x2) fun v_9 => gd (inb (M.1 11 9) 16) (ltv (wJ M 17 (ix (M.1 11 9)) v_9) fun M_11 => gd (inb (M_11.1 11 9) 16) (ltv (wI M_11 18 (ix (M_11.1 11 9)) x1) fun M_13 => ltv (wI M_13 11 9 ((M_13.1 11 9) + (1 : Int32))) fun M_14 => ltv (x2 &&& (v_9 ^^^ (-1 : Int64))) fun x2_15 => ltv (x4 + (1 : Int32)) fun x4_16 => k_28 x1 x2_15 x4_16 M_14)))))
set_option maxHeartbeats 4000000 in
set_option maxRecDepth 100000 in
theorem gb_X7_findHollows_11_28  {k_7 : Int32 → Mm → Option Mm} {k_28 : Int32 → Int64 → Int32 → Mm → Option Mm} {x1 : Int32} {x2 : Int64} {x4 : Int32} {M : Mm} {M' : Mm} (hE : Has shC (eH E)) (C : Cx RX7 cX7_findHollows 7 p (rmD 5) s m args meth c E) (hr : meth.sig.returnType = none) (hk_7 : ∀ (x1 : Int32) (M : Mm), k_7 x1 M = some M' → G p l e (rmD 5) s m args below meth c E 7 0 0 (QR below args s E 0 0 none M') 7 [(0, .ref (eA E 11)), (1, .int x1)] [] M) (hk_28 : ∀ (x1 : Int32) (x2 : Int64) (x4 : Int32) (M : Mm), k_28 x1 x2 x4 M = some M' → G p l e (rmD 5) s m args below meth c E 7 0 0 (QR below args s E 0 0 none M') 28 [(0, .ref (eA E 11)), (1, .int x1), (2, .long x2), (4, .int x4)] [] M) (h : bb_X7_findHollows_11_28 k_7 k_28 x1 x2 x4 M = some M') : G p l e (rmD 5) s m args below meth c E 7 0 0 (QR below args s E 0 0 none M') 28 [(0, .ref (eA E 11)), (1, .int x1), (2, .long x2), (4, .int x4)] [] M := by
  unfold bb_X7_findHollows_11_28 at h
  refine G.iload C 3 dX7_findHollows_28 rfl ?_
  refine G.bipush (v := (64 : Int32)) C dX7_findHollows_30 (by decide) ?_
  refine G.icmp_ge (tgt := 106) C dX7_findHollows_32 (by decide) (fun hc => ?_) (fun hc => ?_)
  · have h := it_t h hc
    obtain ⟨x1_5, ex1_5, h⟩ := ltv_ex h
    refine G.iinc (L' := [(1, .int x1_5), (0, .ref (eA E 11)), (2, .long x2), (4, .int x4)]) C 1 dX7_findHollows_106 rfl (ex1_5.trans rfl) (by decide) rfl ?_
    refine G.goto (tgt := 7) C dX7_findHollows_109 (by decide) ?_
    exact G.sub [1, 0] rfl (hk_7 _ _  h)
  · have h := it_f h hc
    refine G.lload_n C 2 dX7_findHollows_35 rfl rfl ?_
    refine G.lconst (v := (0 : Int64)) C dX7_findHollows_36 (by decide) ?_
    refine G.lcmp C dX7_findHollows_37 (G.if_eq (tgt := 106) C dX7_findHollows_38 (by decide) (fun hc => ?_) (fun hc => ?_))
    · have h := it_t h (lgc_eq.mp hc)
      obtain ⟨x1_6, ex1_6, h⟩ := ltv_ex h
      refine G.iinc (L' := [(1, .int x1_6), (0, .ref (eA E 11)), (2, .long x2), (4, .int x4)]) C 1 dX7_findHollows_106 rfl (ex1_6.trans rfl) (by decide) rfl ?_
      refine G.goto (tgt := 7) C dX7_findHollows_109 (by decide) ?_
      exact G.sub [1, 0] rfl (hk_7 _ _  h)
    · have h := it_f h ((not_congr lgc_eq).mp hc)
      refine G.aload_n C 0 dX7_findHollows_41 rfl rfl ?_
      refine G.getI (k := 9) C k_X7 (sc_11 hE) rfl (by decide) tg_167 dX7_findHollows_42 ?_
      refine G.bipush (v := (16 : Int32)) C dX7_findHollows_45 (by decide) ?_
      refine G.icmp_ge (tgt := 106) C dX7_findHollows_47 (by decide) (fun hc => ?_) (fun hc => ?_)
      · have h := it_t h hc
        obtain ⟨x1_7, ex1_7, h⟩ := ltv_ex h
        refine G.iinc (L' := [(1, .int x1_7), (0, .ref (eA E 11)), (2, .long x2), (4, .int x4)]) C 1 dX7_findHollows_106 rfl (ex1_7.trans rfl) (by decide) rfl ?_
        refine G.goto (tgt := 7) C dX7_findHollows_109 (by decide) ?_
        exact G.sub [1, 0] rfl (hk_7 _ _  h)
      · have h := it_f h hc
        refine G.lload_n C 2 dX7_findHollows_50 rfl rfl ?_
        refine G.lload_n C 2 dX7_findHollows_51 rfl rfl ?_
        refine G.lneg C dX7_findHollows_52 ?_
        refine G.land C dX7_findHollows_53 ?_
        refine G.lload_n C 2 dX7_findHollows_54 rfl rfl ?_
        obtain ⟨v_9, hv_8, h⟩ := bd_ex h
        refine G.callS (rest := []) C (s_X7_grown  hv_8) ⟨tg_874, tg_92, ok_X7_grown, Nat.le_of_ble_eq_true rfl, Nat.le_of_ble_eq_true rfl⟩ tg_872 tg_873 rfl (Nat.le_of_ble_eq_true rfl) dX7_findHollows_55 ⟨Nat.le_refl 0, Nat.le_refl 0⟩ ?_
        refine G.lstore (L' := [(5, .long v_9), (0, .ref (eA E 11)), (1, .int x1), (2, .long x2), (4, .int x4)]) C dX7_findHollows_58 rfl (by decide) rfl ?_
        refine G.aload_n C 1 dX7_findHollows_60 rfl rfl ?_
        refine G.getR (k := 5) C k_X7 (sc_11 hE) rfl (by decide) tg_148 dX7_findHollows_61 ?_
        refine G.aload_n C 1 dX7_findHollows_64 rfl rfl ?_
        refine G.getI (k := 9) C k_X7 (sc_11 hE) rfl (by decide) tg_167 dX7_findHollows_65 ?_
        refine G.lload C 0 dX7_findHollows_68 rfl ?_
        obtain ⟨hg_10, h⟩ := gd_ex h
        obtain ⟨M_11, eM_11, h⟩ := ltv_ex h
        refine G.sJ (j := (ix (M.1 11 9))) C (sc_17 hE) hg_10 rfl dX7_findHollows_70 eM_11 ?_
        refine G.aload_n C 1 dX7_findHollows_71 rfl rfl ?_
        refine G.getR (k := 6) C k_X7 (sc_11 hE) rfl (by decide) tg_153 dX7_findHollows_72 ?_
        refine G.aload_n C 1 dX7_findHollows_75 rfl rfl ?_
        refine G.getI (k := 9) C k_X7 (sc_11 hE) rfl (by decide) tg_167 dX7_findHollows_76 ?_
        refine G.iload_n C 2 dX7_findHollows_79 rfl rfl ?_
        obtain ⟨hg_12, h⟩ := gd_ex h
        obtain ⟨M_13, eM_13, h⟩ := ltv_ex h
        refine G.sI (j := (ix (M_11.1 11 9))) C (sc_18 hE) hg_12 rfl dX7_findHollows_80 eM_13 ?_
        refine G.aload_n C 1 dX7_findHollows_81 rfl rfl ?_
        refine G.dup C dX7_findHollows_82 rfl ?_
        refine G.getI (k := 9) C k_X7 (sc_11 hE) rfl (by decide) tg_167 dX7_findHollows_83 ?_
        refine G.iconst (v := (1 : Int32)) C dX7_findHollows_86 (by decide) ?_
        refine G.iadd C dX7_findHollows_87 ?_
        obtain ⟨M_14, eM_14, h⟩ := ltv_ex h
        refine G.putI (k := 9) C k_X7 (sc_11 hE) rfl (by decide) tg_167 rfl rfl dX7_findHollows_88 eM_14 ?_
        refine G.lload_n C 3 dX7_findHollows_91 rfl rfl ?_
        refine G.lload C 0 dX7_findHollows_92 rfl ?_
        refine G.ldc2 C tg_408 dX7_findHollows_94 ?_
        refine G.lxor C dX7_findHollows_97 ?_
        refine G.land C dX7_findHollows_98 ?_
        obtain ⟨x2_15, ex2_15, h⟩ := ltv_ex h
        refine G.lstore_n (L' := [(2, .long x2_15), (5, .long v_9), (0, .ref (eA E 11)), (1, .int x1), (4, .int x4)]) C dX7_findHollows_99 rfl ex2_15 (by decide) rfl ?_
        obtain ⟨x4_16, ex4_16, h⟩ := ltv_ex h
        refine G.iinc (L' := [(4, .int x4_16), (2, .long x2_15), (5, .long v_9), (0, .ref (eA E 11)), (1, .int x1)]) C 4 dX7_findHollows_100 rfl (ex4_16.trans rfl) (by decide) rfl ?_
        refine G.goto (tgt := 28) C dX7_findHollows_103 (by decide) ?_
        exact G.sub [3, 4, 1, 0] rfl (hk_28 _ _ _ _  h)
def b_X7_findHollows_11_28 (k_7 : Int32 → Mm → Option Mm) : Nat → Int32 → Int64 → Int32 → Mm → Option Mm
  | 0, _, _, _, _ => none
  | n + 1, x1, x2, x4, M => bb_X7_findHollows_11_28 k_7 (b_X7_findHollows_11_28 k_7 n) x1 x2 x4 M
set_option maxHeartbeats 4000000 in
theorem g_X7_findHollows_11_28  {k_7 : Int32 → Mm → Option Mm} {n : Nat} {x1 : Int32} {x2 : Int64} {x4 : Int32} {M : Mm} {M' : Mm} (hE : Has shC (eH E)) (C : Cx RX7 cX7_findHollows 7 p (rmD 5) s m args meth c E) (hr : meth.sig.returnType = none) (hk_7 : ∀ (x1 : Int32) (M : Mm), k_7 x1 M = some M' → G p l e (rmD 5) s m args below meth c E 7 0 0 (QR below args s E 0 0 none M') 7 [(0, .ref (eA E 11)), (1, .int x1)] [] M) (h : b_X7_findHollows_11_28 k_7 n x1 x2 x4 M = some M') : G p l e (rmD 5) s m args below meth c E 7 0 0 (QR below args s E 0 0 none M') 28 [(0, .ref (eA E 11)), (1, .int x1), (2, .long x2), (4, .int x4)] [] M := by
  induction n generalizing x1 x2 x4 M with
  | zero => cases h
  | succ n ih => exact gb_X7_findHollows_11_28 hE C hr hk_7 (fun _ _ _ _ => ih)  h
def bb_X7_findHollows_11_7 (k_7 : Int32 → Mm → Option Mm) (x1 : Int32) (M : Mm) : Option Mm := if (M.1 11 7) ≤ x1 then (some M) else (gd (inb x1 10) (bd (f_X4_hidden (M.2 12 (ix x1))) fun v_4 => b_X7_findHollows_11_28 k_7 FU x1 v_4 (0 : Int32) M))
set_option maxHeartbeats 4000000 in
set_option maxRecDepth 100000 in
theorem gb_X7_findHollows_11_7  {k_7 : Int32 → Mm → Option Mm} {x1 : Int32} {M : Mm} {M' : Mm} (hE : Has shC (eH E)) (C : Cx RX7 cX7_findHollows 7 p (rmD 5) s m args meth c E) (hr : meth.sig.returnType = none) (hk_7 : ∀ (x1 : Int32) (M : Mm), k_7 x1 M = some M' → G p l e (rmD 5) s m args below meth c E 7 0 0 (QR below args s E 0 0 none M') 7 [(0, .ref (eA E 11)), (1, .int x1)] [] M) (h : bb_X7_findHollows_11_7 k_7 x1 M = some M') : G p l e (rmD 5) s m args below meth c E 7 0 0 (QR below args s E 0 0 none M') 7 [(0, .ref (eA E 11)), (1, .int x1)] [] M := by
  unfold bb_X7_findHollows_11_7 at h
  refine G.iload_n C 1 dX7_findHollows_7 rfl rfl ?_
  refine G.aload_n C 0 dX7_findHollows_8 rfl rfl ?_
  refine G.getI (k := 7) C k_X7 (sc_11 hE) rfl (by decide) tg_157 dX7_findHollows_9 ?_
  refine G.icmp_ge (tgt := 112) C dX7_findHollows_12 (by decide) (fun hc => ?_) (fun hc => ?_)
  · have h := it_t h hc
    cases h
    exact G.vret C hr dX7_findHollows_112
  · have h := it_f h hc
    refine G.aload_n C 0 dX7_findHollows_15 rfl rfl ?_
    refine G.getR (k := 0) C k_X7 (sc_11 hE) rfl (by decide) tg_136 dX7_findHollows_16 ?_
    refine G.iload_n C 1 dX7_findHollows_19 rfl rfl ?_
    obtain ⟨hg_2, h⟩ := gd_ex h
    refine G.aJ (j := ix x1) C (sc_12 hE) hg_2 rfl dX7_findHollows_20 ?_
    obtain ⟨v_4, hv_3, h⟩ := bd_ex h
    refine G.callS (rest := []) C (s_X4_hidden  hv_3) ⟨tg_870, tg_101, ok_X4_hidden, Nat.le_of_ble_eq_true rfl, Nat.le_of_ble_eq_true rfl⟩ tg_868 tg_869 rfl (Nat.le_of_ble_eq_true rfl) dX7_findHollows_21 ⟨Nat.le_refl 0, Nat.le_refl 0⟩ ?_
    refine G.lstore_n (L' := [(2, .long v_4), (0, .ref (eA E 11)), (1, .int x1)]) C dX7_findHollows_24 rfl rfl (by decide) rfl ?_
    refine G.iconst (v := (0 : Int32)) C dX7_findHollows_25 (by decide) ?_
    refine G.istore (L' := [(4, .int (0 : Int32)), (2, .long v_4), (0, .ref (eA E 11)), (1, .int x1)]) C dX7_findHollows_26 rfl (by decide) rfl ?_
    exact G.sub [2, 3, 1, 0] rfl (g_X7_findHollows_11_28 hE C hr hk_7  h)
def b_X7_findHollows_11_7 : Nat → Int32 → Mm → Option Mm
  | 0, _, _ => none
  | n + 1, x1, M => bb_X7_findHollows_11_7 (b_X7_findHollows_11_7 n) x1 M
set_option maxHeartbeats 4000000 in
theorem g_X7_findHollows_11_7  {n : Nat} {x1 : Int32} {M : Mm} {M' : Mm} (hE : Has shC (eH E)) (C : Cx RX7 cX7_findHollows 7 p (rmD 5) s m args meth c E) (hr : meth.sig.returnType = none) (h : b_X7_findHollows_11_7 n x1 M = some M') : G p l e (rmD 5) s m args below meth c E 7 0 0 (QR below args s E 0 0 none M') 7 [(0, .ref (eA E 11)), (1, .int x1)] [] M := by
  induction n generalizing x1 M with
  | zero => cases h
  | succ n ih => exact gb_X7_findHollows_11_7 hE C hr (fun _ _ => ih)  h
def bb_X7_findHollows_11_0  (M : Mm) : Option Mm := ltv (wI M 11 9 (0 : Int32)) fun M_1 => b_X7_findHollows_11_7 FU (0 : Int32) M_1
set_option maxHeartbeats 4000000 in
set_option maxRecDepth 100000 in
theorem gb_X7_findHollows_11_0   {M : Mm} {M' : Mm} (hE : Has shC (eH E)) (C : Cx RX7 cX7_findHollows 7 p (rmD 5) s m args meth c E) (hr : meth.sig.returnType = none) (h : bb_X7_findHollows_11_0 M = some M') : G p l e (rmD 5) s m args below meth c E 7 0 0 (QR below args s E 0 0 none M') 0 [(0, .ref (eA E 11))] [] M := by
  unfold bb_X7_findHollows_11_0 at h
  refine G.aload_n C 0 dX7_findHollows_0 rfl rfl ?_
  refine G.iconst (v := (0 : Int32)) C dX7_findHollows_1 (by decide) ?_
  obtain ⟨M_1, eM_1, h⟩ := ltv_ex h
  refine G.putI (k := 9) C k_X7 (sc_11 hE) rfl (by decide) tg_167 rfl rfl dX7_findHollows_2 eM_1 ?_
  refine G.iconst (v := (0 : Int32)) C dX7_findHollows_5 (by decide) ?_
  refine G.istore_n (L' := [(1, .int (0 : Int32)), (0, .ref (eA E 11))]) C dX7_findHollows_6 rfl rfl (by decide) rfl ?_
  exact G.sub [1, 0] rfl (g_X7_findHollows_11_7 hE C hr  h)
def f_X7_findHollows_11  (M : Mm) : Option Mm := bb_X7_findHollows_11_0 M
theorem s_X7_findHollows_11 {l : Launch} {E : Ev}  {M : Mm} {M' : Mm} (hE : Has shC (eH E)) (h : f_X7_findHollows_11 M = some M') : MetA l yX7_findHollows cX7_findHollows 7 none 5 E [.ref (eA E 11)] M none M' := by
  refine MetA.of (by decide +kernel) (Nat.le_of_ble_eq_true rfl) ?_
  intro p e s m below meth c C hr hnm
  exact G.sub [0] rfl (gb_X7_findHollows_11_0 hE C hr  h)
def bb_X7_firstHollowOf_11_2 (k_2 : Int32 → Int32 → Mm → Option Int32) (x1 : Int32) (x2 : Int32) (M : Mm) : Option Int32 := if (M.1 11 9) ≤ x2 then (some (-1 : Int32)) else (gd (inb x2 16) (if (M.1 18 (ix x2)) = x1 then (some x2) else (ltv (x2 + (1 : Int32)) fun x2_2 => k_2 x1 x2_2 M)))
set_option maxHeartbeats 4000000 in
set_option maxRecDepth 100000 in
theorem gb_X7_firstHollowOf_11_2  {k_2 : Int32 → Int32 → Mm → Option Int32} {x1 : Int32} {x2 : Int32} {M : Mm} {v : Int32} (hE : Has shC (eH E)) (C : Cx RX7 cX7_firstHollowOf 3 p (rmD 1) s m args meth c E) (hr : meth.sig.returnType = (some .int)) (hk_2 : ∀ (x1 : Int32) (x2 : Int32) (M : Mm), k_2 x1 x2 M = some v → G p l e (rmD 1) s m args below meth c E 3 0 0 (QR below args s E 0 0 (some (.int v)) M) 2 [(0, .ref (eA E 11)), (1, .int x1), (2, .int x2)] [] M) (h : bb_X7_firstHollowOf_11_2 k_2 x1 x2 M = some v) : G p l e (rmD 1) s m args below meth c E 3 0 0 (QR below args s E 0 0 (some (.int v)) M) 2 [(0, .ref (eA E 11)), (1, .int x1), (2, .int x2)] [] M := by
  unfold bb_X7_firstHollowOf_11_2 at h
  refine G.iload_n C 2 dX7_firstHollowOf_2 rfl rfl ?_
  refine G.aload_n C 0 dX7_firstHollowOf_3 rfl rfl ?_
  refine G.getI (k := 9) C k_X7 (sc_11 hE) rfl (by decide) tg_167 dX7_firstHollowOf_4 ?_
  refine G.icmp_ge (tgt := 28) C dX7_firstHollowOf_7 (by decide) (fun hc => ?_) (fun hc => ?_)
  · have h := it_t h hc
    refine G.iconst (v := (-1 : Int32)) C dX7_firstHollowOf_28 (by decide) ?_
    cases h
    exact G.iret C hr dX7_firstHollowOf_29
  · have h := it_f h hc
    refine G.aload_n C 0 dX7_firstHollowOf_10 rfl rfl ?_
    refine G.getR (k := 6) C k_X7 (sc_11 hE) rfl (by decide) tg_153 dX7_firstHollowOf_11 ?_
    refine G.iload_n C 2 dX7_firstHollowOf_14 rfl rfl ?_
    obtain ⟨hg_1, h⟩ := gd_ex h
    refine G.aI (j := ix x2) C (sc_18 hE) hg_1 rfl dX7_firstHollowOf_15 ?_
    refine G.iload_n C 1 dX7_firstHollowOf_16 rfl rfl ?_
    refine G.icmp_ne (tgt := 22) C dX7_firstHollowOf_17 (by decide) (fun hc => ?_) (fun hc => ?_)
    · have h := it_f h hc
      obtain ⟨x2_2, ex2_2, h⟩ := ltv_ex h
      refine G.iinc (L' := [(2, .int x2_2), (0, .ref (eA E 11)), (1, .int x1)]) C 2 dX7_firstHollowOf_22 rfl (ex2_2.trans rfl) (by decide) rfl ?_
      refine G.goto (tgt := 2) C dX7_firstHollowOf_25 (by decide) ?_
      exact G.sub [1, 2, 0] rfl (hk_2 _ _ _  h)
    · have h := it_t h hc
      refine G.iload_n C 2 dX7_firstHollowOf_20 rfl rfl ?_
      cases h
      exact G.iret C hr dX7_firstHollowOf_21
def b_X7_firstHollowOf_11_2 : Nat → Int32 → Int32 → Mm → Option Int32
  | 0, _, _, _ => none
  | n + 1, x1, x2, M => bb_X7_firstHollowOf_11_2 (b_X7_firstHollowOf_11_2 n) x1 x2 M
set_option maxHeartbeats 4000000 in
theorem g_X7_firstHollowOf_11_2  {n : Nat} {x1 : Int32} {x2 : Int32} {M : Mm} {v : Int32} (hE : Has shC (eH E)) (C : Cx RX7 cX7_firstHollowOf 3 p (rmD 1) s m args meth c E) (hr : meth.sig.returnType = (some .int)) (h : b_X7_firstHollowOf_11_2 n x1 x2 M = some v) : G p l e (rmD 1) s m args below meth c E 3 0 0 (QR below args s E 0 0 (some (.int v)) M) 2 [(0, .ref (eA E 11)), (1, .int x1), (2, .int x2)] [] M := by
  induction n generalizing x1 x2 M with
  | zero => cases h
  | succ n ih => exact gb_X7_firstHollowOf_11_2 hE C hr (fun _ _ _ => ih)  h
def bb_X7_firstHollowOf_11_0 (x1 : Int32) (M : Mm) : Option Int32 := b_X7_firstHollowOf_11_2 FU x1 (0 : Int32) M
set_option maxHeartbeats 4000000 in
set_option maxRecDepth 100000 in
theorem gb_X7_firstHollowOf_11_0  {x1 : Int32} {M : Mm} {v : Int32} (hE : Has shC (eH E)) (C : Cx RX7 cX7_firstHollowOf 3 p (rmD 1) s m args meth c E) (hr : meth.sig.returnType = (some .int)) (h : bb_X7_firstHollowOf_11_0 x1 M = some v) : G p l e (rmD 1) s m args below meth c E 3 0 0 (QR below args s E 0 0 (some (.int v)) M) 0 [(0, .ref (eA E 11)), (1, .int x1)] [] M := by
  unfold bb_X7_firstHollowOf_11_0 at h
  refine G.iconst (v := (0 : Int32)) C dX7_firstHollowOf_0 (by decide) ?_
  refine G.istore_n (L' := [(2, .int (0 : Int32)), (0, .ref (eA E 11)), (1, .int x1)]) C dX7_firstHollowOf_1 rfl rfl (by decide) rfl ?_
  exact G.sub [1, 2, 0] rfl (g_X7_firstHollowOf_11_2 hE C hr  h)
def f_X7_firstHollowOf_11 (x1 : Int32) (M : Mm) : Option Int32 := bb_X7_firstHollowOf_11_0 x1 M
theorem s_X7_firstHollowOf_11 {l : Launch} {E : Ev} {x1 : Int32} {M : Mm} {v : Int32} (hE : Has shC (eH E)) (h : f_X7_firstHollowOf_11 x1 M = some v) : MetA l yX7_firstHollowOf cX7_firstHollowOf 3 (some .int) 1 E [.ref (eA E 11), .int x1] M (some (.int v)) M := by
  refine MetA.of (by decide +kernel) (Nat.le_of_ble_eq_true rfl) ?_
  intro p e s m below meth c C hr hnm
  exact G.sub [0, 1] rfl (gb_X7_firstHollowOf_11_0 hE C hr  h)
def bb_X7_hollowsOf_11_4 (k_4 : Int32 → Int32 → Int32 → Mm → Option Int32) (x1 : Int32) (x2 : Int32) (x3 : Int32) (M : Mm) : Option Int32 := if (M.1 11 9) ≤ x3 then (some x2) else (gd (inb x3 16) (if (M.1 18 (ix x3)) = x1 then (ltv (x2 + (1 : Int32)) fun x2_3 => ltv (x3 + (1 : Int32)) fun x3_4 => k_4 x1 x2_3 x3_4 M) else (ltv (x3 + (1 : Int32)) fun x3_2 => k_4 x1 x2 x3_2 M)))
set_option maxHeartbeats 4000000 in
set_option maxRecDepth 100000 in
theorem gb_X7_hollowsOf_11_4  {k_4 : Int32 → Int32 → Int32 → Mm → Option Int32} {x1 : Int32} {x2 : Int32} {x3 : Int32} {M : Mm} {v : Int32} (hE : Has shC (eH E)) (C : Cx RX7 cX7_hollowsOf 4 p (rmD 1) s m args meth c E) (hr : meth.sig.returnType = (some .int)) (hk_4 : ∀ (x1 : Int32) (x2 : Int32) (x3 : Int32) (M : Mm), k_4 x1 x2 x3 M = some v → G p l e (rmD 1) s m args below meth c E 4 0 0 (QR below args s E 0 0 (some (.int v)) M) 4 [(0, .ref (eA E 11)), (1, .int x1), (2, .int x2), (3, .int x3)] [] M) (h : bb_X7_hollowsOf_11_4 k_4 x1 x2 x3 M = some v) : G p l e (rmD 1) s m args below meth c E 4 0 0 (QR below args s E 0 0 (some (.int v)) M) 4 [(0, .ref (eA E 11)), (1, .int x1), (2, .int x2), (3, .int x3)] [] M := by
  unfold bb_X7_hollowsOf_11_4 at h
  refine G.iload_n C 3 dX7_hollowsOf_4 rfl rfl ?_
  refine G.aload_n C 0 dX7_hollowsOf_5 rfl rfl ?_
  refine G.getI (k := 9) C k_X7 (sc_11 hE) rfl (by decide) tg_167 dX7_hollowsOf_6 ?_
  refine G.icmp_ge (tgt := 31) C dX7_hollowsOf_9 (by decide) (fun hc => ?_) (fun hc => ?_)
  · have h := it_t h hc
    refine G.iload_n C 2 dX7_hollowsOf_31 rfl rfl ?_
    cases h
    exact G.iret C hr dX7_hollowsOf_32
  · have h := it_f h hc
    refine G.aload_n C 0 dX7_hollowsOf_12 rfl rfl ?_
    refine G.getR (k := 6) C k_X7 (sc_11 hE) rfl (by decide) tg_153 dX7_hollowsOf_13 ?_
    refine G.iload_n C 3 dX7_hollowsOf_16 rfl rfl ?_
    obtain ⟨hg_1, h⟩ := gd_ex h
    refine G.aI (j := ix x3) C (sc_18 hE) hg_1 rfl dX7_hollowsOf_17 ?_
    refine G.iload_n C 1 dX7_hollowsOf_18 rfl rfl ?_
    refine G.icmp_ne (tgt := 25) C dX7_hollowsOf_19 (by decide) (fun hc => ?_) (fun hc => ?_)
    · have h := it_f h hc
      obtain ⟨x3_2, ex3_2, h⟩ := ltv_ex h
      refine G.iinc (L' := [(3, .int x3_2), (0, .ref (eA E 11)), (1, .int x1), (2, .int x2)]) C 3 dX7_hollowsOf_25 rfl (ex3_2.trans rfl) (by decide) rfl ?_
      refine G.goto (tgt := 4) C dX7_hollowsOf_28 (by decide) ?_
      exact G.sub [1, 2, 3, 0] rfl (hk_4 _ _ _ _  h)
    · have h := it_t h hc
      obtain ⟨x2_3, ex2_3, h⟩ := ltv_ex h
      refine G.iinc (L' := [(2, .int x2_3), (0, .ref (eA E 11)), (1, .int x1), (3, .int x3)]) C 2 dX7_hollowsOf_22 rfl (ex2_3.trans rfl) (by decide) rfl ?_
      obtain ⟨x3_4, ex3_4, h⟩ := ltv_ex h
      refine G.iinc (L' := [(3, .int x3_4), (2, .int x2_3), (0, .ref (eA E 11)), (1, .int x1)]) C 3 dX7_hollowsOf_25 rfl (ex3_4.trans rfl) (by decide) rfl ?_
      refine G.goto (tgt := 4) C dX7_hollowsOf_28 (by decide) ?_
      exact G.sub [2, 3, 1, 0] rfl (hk_4 _ _ _ _  h)
def b_X7_hollowsOf_11_4 : Nat → Int32 → Int32 → Int32 → Mm → Option Int32
  | 0, _, _, _, _ => none
  | n + 1, x1, x2, x3, M => bb_X7_hollowsOf_11_4 (b_X7_hollowsOf_11_4 n) x1 x2 x3 M
set_option maxHeartbeats 4000000 in
theorem g_X7_hollowsOf_11_4  {n : Nat} {x1 : Int32} {x2 : Int32} {x3 : Int32} {M : Mm} {v : Int32} (hE : Has shC (eH E)) (C : Cx RX7 cX7_hollowsOf 4 p (rmD 1) s m args meth c E) (hr : meth.sig.returnType = (some .int)) (h : b_X7_hollowsOf_11_4 n x1 x2 x3 M = some v) : G p l e (rmD 1) s m args below meth c E 4 0 0 (QR below args s E 0 0 (some (.int v)) M) 4 [(0, .ref (eA E 11)), (1, .int x1), (2, .int x2), (3, .int x3)] [] M := by
  induction n generalizing x1 x2 x3 M with
  | zero => cases h
  | succ n ih => exact gb_X7_hollowsOf_11_4 hE C hr (fun _ _ _ _ => ih)  h
def bb_X7_hollowsOf_11_0 (x1 : Int32) (M : Mm) : Option Int32 := b_X7_hollowsOf_11_4 FU x1 (0 : Int32) (0 : Int32) M
set_option maxHeartbeats 4000000 in
set_option maxRecDepth 100000 in
theorem gb_X7_hollowsOf_11_0  {x1 : Int32} {M : Mm} {v : Int32} (hE : Has shC (eH E)) (C : Cx RX7 cX7_hollowsOf 4 p (rmD 1) s m args meth c E) (hr : meth.sig.returnType = (some .int)) (h : bb_X7_hollowsOf_11_0 x1 M = some v) : G p l e (rmD 1) s m args below meth c E 4 0 0 (QR below args s E 0 0 (some (.int v)) M) 0 [(0, .ref (eA E 11)), (1, .int x1)] [] M := by
  unfold bb_X7_hollowsOf_11_0 at h
  refine G.iconst (v := (0 : Int32)) C dX7_hollowsOf_0 (by decide) ?_
  refine G.istore_n (L' := [(2, .int (0 : Int32)), (0, .ref (eA E 11)), (1, .int x1)]) C dX7_hollowsOf_1 rfl rfl (by decide) rfl ?_
  refine G.iconst (v := (0 : Int32)) C dX7_hollowsOf_2 (by decide) ?_
  refine G.istore_n (L' := [(3, .int (0 : Int32)), (2, .int (0 : Int32)), (0, .ref (eA E 11)), (1, .int x1)]) C dX7_hollowsOf_3 rfl rfl (by decide) rfl ?_
  exact G.sub [2, 3, 1, 0] rfl (g_X7_hollowsOf_11_4 hE C hr  h)
def f_X7_hollowsOf_11 (x1 : Int32) (M : Mm) : Option Int32 := bb_X7_hollowsOf_11_0 x1 M
theorem s_X7_hollowsOf_11 {l : Launch} {E : Ev} {x1 : Int32} {M : Mm} {v : Int32} (hE : Has shC (eH E)) (h : f_X7_hollowsOf_11 x1 M = some v) : MetA l yX7_hollowsOf cX7_hollowsOf 4 (some .int) 1 E [.ref (eA E 11), .int x1] M (some (.int v)) M := by
  refine MetA.of (by decide +kernel) (Nat.le_of_ble_eq_true rfl) ?_
  intro p e s m below meth c C hr hnm
  exact G.sub [0, 1] rfl (gb_X7_hollowsOf_11_0 hE C hr  h)
def bb_X7_inkOf_11_0 (x1 : Int32) (M : Mm) : Option Int64 := if x1 < 0 then (some (0 : Int64)) else (if (M.1 11 7) ≤ x1 then (some (0 : Int64)) else (gd (inb x1 10) (some (M.2 12 (ix x1)))))
set_option maxHeartbeats 4000000 in
set_option maxRecDepth 100000 in
theorem gb_X7_inkOf_11_0  {x1 : Int32} {M : Mm} {v : Int64} (hE : Has shC (eH E)) (C : Cx RX7 cX7_inkOf 2 p (rmD 1) s m args meth c E) (hr : meth.sig.returnType = (some .long)) (h : bb_X7_inkOf_11_0 x1 M = some v) : G p l e (rmD 1) s m args below meth c E 2 0 0 (QR below args s E 0 0 (some (.long v)) M) 0 [(0, .ref (eA E 11)), (1, .int x1)] [] M := by
  unfold bb_X7_inkOf_11_0 at h
  refine G.iload_n C 1 dX7_inkOf_0 rfl rfl ?_
  refine G.if_lt (tgt := 21) C dX7_inkOf_1 (by decide) (fun hc => ?_) (fun hc => ?_)
  · have h := it_t h hc
    refine G.lconst (v := (0 : Int64)) C dX7_inkOf_21 (by decide) ?_
    cases h
    exact G.lret C hr dX7_inkOf_22
  · have h := it_f h hc
    refine G.iload_n C 1 dX7_inkOf_4 rfl rfl ?_
    refine G.aload_n C 0 dX7_inkOf_5 rfl rfl ?_
    refine G.getI (k := 7) C k_X7 (sc_11 hE) rfl (by decide) tg_157 dX7_inkOf_6 ?_
    refine G.icmp_ge (tgt := 21) C dX7_inkOf_9 (by decide) (fun hc => ?_) (fun hc => ?_)
    · have h := it_t h hc
      refine G.lconst (v := (0 : Int64)) C dX7_inkOf_21 (by decide) ?_
      cases h
      exact G.lret C hr dX7_inkOf_22
    · have h := it_f h hc
      refine G.aload_n C 0 dX7_inkOf_12 rfl rfl ?_
      refine G.getR (k := 0) C k_X7 (sc_11 hE) rfl (by decide) tg_136 dX7_inkOf_13 ?_
      refine G.iload_n C 1 dX7_inkOf_16 rfl rfl ?_
      obtain ⟨hg_1, h⟩ := gd_ex h
      refine G.aJ (j := ix x1) C (sc_12 hE) hg_1 rfl dX7_inkOf_17 ?_
      refine G.goto (tgt := 22) C dX7_inkOf_18 (by decide) ?_
      cases h
      exact G.lret C hr dX7_inkOf_22
def f_X7_inkOf_11 (x1 : Int32) (M : Mm) : Option Int64 := bb_X7_inkOf_11_0 x1 M
theorem s_X7_inkOf_11 {l : Launch} {E : Ev} {x1 : Int32} {M : Mm} {v : Int64} (hE : Has shC (eH E)) (h : f_X7_inkOf_11 x1 M = some v) : MetA l yX7_inkOf cX7_inkOf 2 (some .long) 1 E [.ref (eA E 11), .int x1] M (some (.long v)) M := by
  refine MetA.of (by decide +kernel) (Nat.le_of_ble_eq_true rfl) ?_
  intro p e s m below meth c C hr hnm
  exact G.sub [0, 1] rfl (gb_X7_inkOf_11_0 hE C hr  h)
def bb_X7_copyOf_11_3_0  (M : Mm) : Option Mm := bd (f_X7_wipe_11 M) fun M_2 => ltv (wI M_2 11 7 (M_2.1 3 7)) fun M_3 => ltv (wI M_3 11 8 (M_3.1 3 8)) fun M_4 => ltv (cpJ M_4 4 12 10) fun M_5 => ltv (cpI M_5 6 14 48) fun M_6 => ltv (cpI M_6 7 15 6) fun M_7 => ltv (cpI M_7 8 16 10) fun M_8 => some M_8
set_option maxHeartbeats 4000000 in
set_option maxRecDepth 100000 in
theorem gb_X7_copyOf_11_3_0   {M : Mm} {M' : Mm} (hE : Has shC (eH E)) (C : Cx RX7 cX7_copyOf 2 p (rmD 3) s m args meth c E) (hr : meth.sig.returnType = none) (h : bb_X7_copyOf_11_3_0 M = some M') : G p l e (rmD 3) s m args below meth c E 2 0 0 (QR below args s E 0 0 none M') 0 [(0, .ref (eA E 11)), (1, .ref (eA E 3))] [] M := by
  unfold bb_X7_copyOf_11_3_0 at h
  refine G.aload_n C 0 dX7_copyOf_0 rfl rfl ?_
  obtain ⟨M_2, hv_1, h⟩ := bd_ex h
  refine G.callV (rest := []) C (s_X7_wipe_11 hE  hv_1) ⟨tg_404, tg_92, ok_X7_wipe, Nat.le_of_ble_eq_true rfl, Nat.le_of_ble_eq_true rfl⟩ tg_862 tg_402 tg_403 (sc_11 hE) rfl rfl (Nat.le_of_ble_eq_true rfl) dX7_copyOf_1 ⟨Nat.le_refl 0, Nat.le_refl 0⟩ ?_
  refine G.aload_n C 0 dX7_copyOf_4 rfl rfl ?_
  refine G.aload_n C 1 dX7_copyOf_5 rfl rfl ?_
  refine G.getI (k := 7) C k_X7 (sc_3 hE) rfl (by decide) tg_157 dX7_copyOf_6 ?_
  obtain ⟨M_3, eM_3, h⟩ := ltv_ex h
  refine G.putI (k := 7) C k_X7 (sc_11 hE) rfl (by decide) tg_157 rfl rfl dX7_copyOf_9 eM_3 ?_
  refine G.aload_n C 0 dX7_copyOf_12 rfl rfl ?_
  refine G.aload_n C 1 dX7_copyOf_13 rfl rfl ?_
  refine G.getI (k := 8) C k_X7 (sc_3 hE) rfl (by decide) tg_162 dX7_copyOf_14 ?_
  obtain ⟨M_4, eM_4, h⟩ := ltv_ex h
  refine G.putI (k := 8) C k_X7 (sc_11 hE) rfl (by decide) tg_162 rfl rfl dX7_copyOf_17 eM_4 ?_
  refine G.aload_n C 1 dX7_copyOf_20 rfl rfl ?_
  refine G.getR (k := 0) C k_X7 (sc_3 hE) rfl (by decide) tg_136 dX7_copyOf_21 ?_
  refine G.iconst (v := (0 : Int32)) C dX7_copyOf_24 (by decide) ?_
  refine G.aload_n C 0 dX7_copyOf_25 rfl rfl ?_
  refine G.getR (k := 0) C k_X7 (sc_11 hE) rfl (by decide) tg_136 dX7_copyOf_26 ?_
  refine G.iconst (v := (0 : Int32)) C dX7_copyOf_29 (by decide) ?_
  refine G.bipush (v := (10 : Int32)) C dX7_copyOf_30 (by decide) ?_
  obtain ⟨M_5, eM_5, h⟩ := ltv_ex h
  refine G.copyJ (rest := []) (n := 10) C (sc_4 hE) (sc_12 hE) tg_863 tg_622 tg_621 tg_112 (by decide) (by decide) (by decide) (by decide) ⟨Nat.le_of_ble_eq_true rfl, Nat.le_of_ble_eq_true rfl⟩ (Nat.le_of_ble_eq_true rfl) dX7_copyOf_32 eM_5 ?_
  refine G.aload_n C 1 dX7_copyOf_35 rfl rfl ?_
  refine G.getR (k := 2) C k_X7 (sc_3 hE) rfl (by decide) tg_140 dX7_copyOf_36 ?_
  refine G.iconst (v := (0 : Int32)) C dX7_copyOf_39 (by decide) ?_
  refine G.aload_n C 0 dX7_copyOf_40 rfl rfl ?_
  refine G.getR (k := 2) C k_X7 (sc_11 hE) rfl (by decide) tg_140 dX7_copyOf_41 ?_
  refine G.iconst (v := (0 : Int32)) C dX7_copyOf_44 (by decide) ?_
  refine G.bipush (v := (48 : Int32)) C dX7_copyOf_45 (by decide) ?_
  obtain ⟨M_6, eM_6, h⟩ := ltv_ex h
  refine G.copyI (rest := []) (n := 48) C (sc_6 hE) (sc_14 hE) tg_863 tg_622 tg_621 tg_112 (by decide) (by decide) (by decide) (by decide) ⟨Nat.le_of_ble_eq_true rfl, Nat.le_of_ble_eq_true rfl⟩ (Nat.le_of_ble_eq_true rfl) dX7_copyOf_47 eM_6 ?_
  refine G.aload_n C 1 dX7_copyOf_50 rfl rfl ?_
  refine G.getR (k := 3) C k_X7 (sc_3 hE) rfl (by decide) tg_142 dX7_copyOf_51 ?_
  refine G.iconst (v := (0 : Int32)) C dX7_copyOf_54 (by decide) ?_
  refine G.aload_n C 0 dX7_copyOf_55 rfl rfl ?_
  refine G.getR (k := 3) C k_X7 (sc_11 hE) rfl (by decide) tg_142 dX7_copyOf_56 ?_
  refine G.iconst (v := (0 : Int32)) C dX7_copyOf_59 (by decide) ?_
  refine G.bipush (v := (6 : Int32)) C dX7_copyOf_60 (by decide) ?_
  obtain ⟨M_7, eM_7, h⟩ := ltv_ex h
  refine G.copyI (rest := []) (n := 6) C (sc_7 hE) (sc_15 hE) tg_863 tg_622 tg_621 tg_112 (by decide) (by decide) (by decide) (by decide) ⟨Nat.le_of_ble_eq_true rfl, Nat.le_of_ble_eq_true rfl⟩ (Nat.le_of_ble_eq_true rfl) dX7_copyOf_62 eM_7 ?_
  refine G.aload_n C 1 dX7_copyOf_65 rfl rfl ?_
  refine G.getR (k := 4) C k_X7 (sc_3 hE) rfl (by decide) tg_145 dX7_copyOf_66 ?_
  refine G.iconst (v := (0 : Int32)) C dX7_copyOf_69 (by decide) ?_
  refine G.aload_n C 0 dX7_copyOf_70 rfl rfl ?_
  refine G.getR (k := 4) C k_X7 (sc_11 hE) rfl (by decide) tg_145 dX7_copyOf_71 ?_
  refine G.iconst (v := (0 : Int32)) C dX7_copyOf_74 (by decide) ?_
  refine G.bipush (v := (10 : Int32)) C dX7_copyOf_75 (by decide) ?_
  obtain ⟨M_8, eM_8, h⟩ := ltv_ex h
  refine G.copyI (rest := []) (n := 10) C (sc_8 hE) (sc_16 hE) tg_863 tg_622 tg_621 tg_112 (by decide) (by decide) (by decide) (by decide) ⟨Nat.le_of_ble_eq_true rfl, Nat.le_of_ble_eq_true rfl⟩ (Nat.le_of_ble_eq_true rfl) dX7_copyOf_77 eM_8 ?_
  cases h
  exact G.vret C hr dX7_copyOf_80
def f_X7_copyOf_11_3  (M : Mm) : Option Mm := bb_X7_copyOf_11_3_0 M
theorem s_X7_copyOf_11_3 {l : Launch} {E : Ev}  {M : Mm} {M' : Mm} (hE : Has shC (eH E)) (h : f_X7_copyOf_11_3 M = some M') : MetA l yX7_copyOf cX7_copyOf 2 none 3 E [.ref (eA E 11), .ref (eA E 3)] M none M' := by
  refine MetA.of (by decide +kernel) (Nat.le_of_ble_eq_true rfl) ?_
  intro p e s m below meth c C hr hnm
  exact G.sub [0, 1] rfl (gb_X7_copyOf_11_3_0 hE C hr  h)
end
